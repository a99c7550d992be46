import java.math.BigInteger;
import java.util.ArrayList;
import java.util.HashMap;
import java.util.List;
import java.util.Map;
import java.util.Random;
import java.util.regex.Matcher;
import java.util.regex.Pattern;

/**
 * Long runs of calls, drawn from fixed seeds, against a second program that follows the document's definitions as
 * plainly as it can: all partitions are tried, all couplings weighed, and a regular expression reads the chains.
 */
public final class ModelTest {
    private static final int RUNS = 700;
    private static final int DENSE_RUNS = 300;
    private static final int CALLS = 512;

    private static int wrong = 0;

    public static void main(String[] args) {
        for (int run = 0; run < RUNS && wrong < 20; run++) {
            new Run(run).go();
        }
        for (int run = RUNS; run < RUNS + DENSE_RUNS && wrong < 20; run++) {
            new Run(run).goDense();
        }
        System.out.println(wrong == 0 ? "all answers are as due" : wrong + " answers are not as due");
        if (wrong != 0) {
            System.exit(1);
        }
    }

    /** The chain and the discount, never changed in place. */
    private static final class State {
        final int n;
        final int d;
        final int p;
        final int r;
        final int[] labels;
        final int[][] w;

        State(int n, int d, int p, int r, int[] labels, int[][] w) {
            this.n = n;
            this.d = d;
            this.p = p;
            this.r = r;
            this.labels = labels;
            this.w = w;
        }

        static State start(int n, int d, int p, int r) {
            int[][] w = new int[n][n];
            for (int i = 0; i < n; i++) {
                w[i][i] = d;
            }
            return new State(n, d, p, r, new int[n], w);
        }

        State copy() {
            int[][] copied = new int[n][];
            for (int i = 0; i < n; i++) {
                copied[i] = w[i].clone();
            }
            return new State(n, d, p, r, labels.clone(), copied);
        }

        String key() {
            return n + " " + d + " " + p + " " + r + java.util.Arrays.toString(labels) + java.util.Arrays.deepToString(w);
        }
    }

    private static final class Model {
        static final long NO_VALUE = Long.MIN_VALUE;
        private static final BigInteger LIMIT = BigInteger.TEN.pow(15);
        private static final String STATE = "[0-9](?:,[0-9]{1,2}>[0-9])+";
        private static final Pattern CHAIN = Pattern.compile("([0-9]{1,2}):(" + STATE + "(?:;" + STATE + "){0,5})");

        State s = State.start(2, 1, 1, 1);
        State saved = null;
        final List<State> edits = new ArrayList<>();
        String input = "";
        final Object[] slots = new Object[4];
        private final Map<String, List<long[][]>> levels = new HashMap<>();

        boolean has(int state) {
            return state >= 0 && state < s.n;
        }

        void edit(State next) {
            if (!next.key().equals(s.key())) {
                edits.add(s);
                if (edits.size() > 10) {
                    edits.remove(0);
                }
                s = next;
            }
        }

        int reset(int n, int d) {
            if (n < 1 || n > 6 || d < 1 || d > 12) {
                return -1;
            }
            int before = s.n;
            s = State.start(n, d, s.p, s.r);
            edits.clear();
            return before;
        }

        int setLabel(int state, int label) {
            if (!has(state)) {
                return -2;
            }
            if (label < 0 || label > 3) {
                return -1;
            }
            int before = s.labels[state];
            State next = s.copy();
            next.labels[state] = label;
            edit(next);
            return before;
        }

        int moveWeight(int state, int from, int to, int amount) {
            if (!has(state) || !has(from) || !has(to)) {
                return -2;
            }
            if (amount < 0 || amount > 12) {
                return -1;
            }
            if (amount > s.w[state][from]) {
                return -3;
            }
            State next = s.copy();
            next.w[state][from] -= amount;
            next.w[state][to] += amount;
            edit(next);
            return s.w[state][to];
        }

        int setDiscount(int p, int r) {
            if (r < 1 || r > 4 || p < 0 || p > r) {
                return -1;
            }
            int changed = p != s.p || r != s.r ? 1 : 0;
            State c = s.copy();
            edit(new State(c.n, c.d, p, r, c.labels, c.w));
            return changed;
        }

        int swapStates(int a, int b) {
            if (!has(a) || !has(b)) {
                return -2;
            }
            State next = s.copy();
            int label = next.labels[a];
            next.labels[a] = next.labels[b];
            next.labels[b] = label;
            int[] row = next.w[a];
            next.w[a] = next.w[b];
            next.w[b] = row;
            for (int i = 0; i < s.n; i++) {
                int weight = next.w[i][a];
                next.w[i][a] = next.w[i][b];
                next.w[i][b] = weight;
            }
            int changed = next.key().equals(s.key()) ? 0 : 1;
            edit(next);
            return changed;
        }

        int undo() {
            if (edits.isEmpty()) {
                return -5;
            }
            s = edits.remove(edits.size() - 1);
            return edits.size();
        }

        boolean supported(int depth) {
            return BigInteger.valueOf((long) s.r * s.d).pow(depth).compareTo(LIMIT) <= 0;
        }

        int maximumDepth() {
            int depth = 0;
            while (depth < 99 && supported(depth + 1)) {
                depth++;
            }
            return depth;
        }

        /** The distances of a depth, times (r D)^depth. */
        long[][] level(int depth) {
            List<long[][]> known = levels.computeIfAbsent(s.key(), k -> new ArrayList<>());
            if (known.isEmpty()) {
                known.add(new long[s.n][s.n]);
            }
            while (known.size() <= depth) {
                long one = BigInteger.valueOf((long) s.r * s.d).pow(known.size()).longValueExact();
                long[][] before = known.get(known.size() - 1);
                long[][] next = new long[s.n][s.n];
                for (int i = 0; i < s.n; i++) {
                    for (int j = 0; j < s.n; j++) {
                        boolean alike = s.labels[i] == s.labels[j];
                        next[i][j] = alike ? Math.multiplyExact(s.p, new Couplings(s.w[i], s.w[j], before).best()) : one;
                    }
                }
                known.add(next);
            }
            return known.get(depth);
        }

        long distance(int depth, int a, int b, boolean top) {
            if (depth < 0 || depth > 15 || !has(a) || !has(b) || !supported(depth)) {
                return NO_VALUE;
            }
            BigInteger numerator = BigInteger.valueOf(level(depth)[a][b]);
            BigInteger denominator = BigInteger.valueOf((long) s.r * s.d).pow(depth);
            BigInteger divisor = numerator.gcd(denominator);
            return (top ? numerator : denominator).divide(divisor).longValueExact();
        }

        boolean isPair(int pair) {
            return pair >= 0 && has(pair / 10) && has(pair % 10);
        }

        int compareDistances(int depth, int a, int b) {
            if (depth < 0 || depth > 15) {
                return -1;
            }
            if (!isPair(a) || !isPair(b)) {
                return -2;
            }
            if (!supported(depth)) {
                return -4;
            }
            long[][] level = level(depth);
            return 1 + Integer.signum(Long.compare(level[a / 10][a % 10], level[b / 10][b % 10]));
        }

        int farthestPair(int depth) {
            if (depth < 0 || depth > 15) {
                return -1;
            }
            if (!supported(depth)) {
                return -4;
            }
            if (s.n == 1) {
                return -7;
            }
            long[][] level = level(depth);
            int best = 1;
            for (int i = s.n - 1; i >= 0; i--) {
                for (int j = s.n - 1; j > i; j--) {
                    if (level[i][j] >= level[best / 10][best % 10]) {
                        best = 10 * i + j;
                    }
                }
            }
            return best;
        }

        int coupling(int depth, int pair, int row, int column) {
            if (depth < 0 || depth > 15) {
                return -1;
            }
            if (!isPair(pair) || !has(row) || !has(column)) {
                return -2;
            }
            if (!supported(depth)) {
                return -4;
            }
            return new Couplings(s.w[pair / 10], s.w[pair % 10], level(depth)).canonical()[row][column];
        }

        int distributionDistance(int a, int b, int kind) {
            if (!has(a) || !has(b)) {
                return -2;
            }
            if (kind < 0 || kind > 3) {
                return -1;
            }
            int sum = 0;
            int most = 0;
            int cumulative = 0;
            int common = 0;
            int sumA = 0;
            int sumB = 0;
            for (int u = 0; u < s.n; u++) {
                int difference = Math.abs(s.w[a][u] - s.w[b][u]);
                sum += difference;
                most = Math.max(most, difference);
                common += Math.min(s.w[a][u], s.w[b][u]);
                sumA += s.w[a][u];
                sumB += s.w[b][u];
                cumulative += Math.abs(sumA - sumB);
            }
            return new int[] {sum / 2, most, cumulative, common}[kind];
        }

        /** Of all partitions, the bisimulation with the fewest classes. */
        int[] bisimulation() {
            int[] best = null;
            int fewest = Integer.MAX_VALUE;
            int all = (int) Math.pow(s.n, s.n);
            for (int code = 0; code < all; code++) {
                int[] classes = new int[s.n];
                int rest = code;
                int count = 0;
                boolean numbered = true;
                for (int i = 0; i < s.n; i++) {
                    classes[i] = rest % s.n;
                    rest /= s.n;
                    numbered &= classes[i] <= count;
                    count = Math.max(count, classes[i] + 1);
                }
                if (numbered && count < fewest && isBisimulation(classes)) {
                    best = classes;
                    fewest = count;
                }
            }
            return best;
        }

        boolean isBisimulation(int[] classes) {
            for (int a = 0; a < s.n; a++) {
                for (int b = 0; b < a; b++) {
                    if (classes[a] == classes[b]) {
                        int[] ahead = new int[s.n];
                        for (int u = 0; u < s.n; u++) {
                            ahead[classes[u]] += s.w[a][u] - s.w[b][u];
                        }
                        for (int u = 0; u < s.n; u++) {
                            if (ahead[u] != 0 || s.labels[a] != s.labels[b]) {
                                return false;
                            }
                        }
                    }
                }
            }
            return true;
        }

        int classCount() {
            int most = 0;
            for (int c : bisimulation()) {
                most = Math.max(most, c);
            }
            return most + 1;
        }

        int minimize() {
            int[] classes = bisimulation();
            int count = classCount();
            int[] labels = new int[count];
            int[][] w = new int[count][count];
            for (int c = 0; c < count; c++) {
                int any = 0;
                while (classes[any] != c) {
                    any++;
                }
                labels[c] = s.labels[any];
                for (int u = 0; u < s.n; u++) {
                    w[c][classes[u]] += s.w[any][u];
                }
            }
            s = new State(count, s.d, s.p, s.r, labels, w);
            edits.clear();
            return count;
        }

        /** What is on its way in each state after each step, and what has arrived. */
        long reach(int state, int labels, int steps, boolean first) {
            if (!has(state) || labels < 0 || labels > 15 || steps < 0 || steps > 12) {
                return NO_VALUE;
            }
            BigInteger arrived = BigInteger.ZERO;
            BigInteger[] here = new BigInteger[s.n];
            for (int i = 0; i < s.n; i++) {
                here[i] = i == state ? BigInteger.ONE : BigInteger.ZERO;
            }
            for (int step = 0; step <= steps; step++) {
                for (int i = 0; i < s.n; i++) {
                    if ((labels & (1 << s.labels[i])) != 0 && (first || step == steps)) {
                        arrived = arrived.add(here[i].multiply(BigInteger.valueOf(s.d).pow(first ? steps - step : 0)));
                        here[i] = BigInteger.ZERO;
                    }
                }
                here = stepOn(here);
            }
            return arrived.longValueExact();
        }

        BigInteger[] stepOn(BigInteger[] here) {
            BigInteger[] next = new BigInteger[s.n];
            for (int j = 0; j < s.n; j++) {
                next[j] = BigInteger.ZERO;
                for (int i = 0; i < s.n; i++) {
                    next[j] = next[j].add(here[i].multiply(BigInteger.valueOf(s.w[i][j])));
                }
            }
            return next;
        }

        long sequenceWeight(int state) {
            String sequence = input;
            input = "";
            if (!has(state) || !sequence.matches("[0-3]{1,13}") || sequence.endsWith("\n")) {
                return NO_VALUE;
            }
            return sequenceFrom(state, sequence);
        }

        private long sequenceFrom(int state, String sequence) {
            Map<String, Long> known = new HashMap<>();
            return sequenceFrom(state, sequence, known);
        }

        private long sequenceFrom(int state, String sequence, Map<String, Long> known) {
            if (s.labels[state] != sequence.charAt(0) - '0') {
                return 0;
            }
            if (sequence.length() == 1) {
                return 1;
            }
            String key = state + ":" + sequence.length();
            if (!known.containsKey(key)) {
                long sum = 0;
                for (int u = 0; u < s.n; u++) {
                    sum += s.w[state][u] * sequenceFrom(u, sequence.substring(1), known);
                }
                known.put(key, sum);
            }
            return known.get(key);
        }

        int[] path(int state, int seed, int steps) {
            int[] path = new int[steps + 1];
            path[0] = state;
            int x = seed;
            for (int i = 1; i <= steps; i++) {
                x = (int) (x * 1103515245L + 12345L);
                int draw = (x >>> 16) % s.d;
                List<Integer> urn = new ArrayList<>();
                for (int u = 0; u < s.n; u++) {
                    for (int k = 0; k < s.w[path[i - 1]][u]; k++) {
                        urn.add(u);
                    }
                }
                path[i] = urn.get(draw);
            }
            return path;
        }

        int sample(int state, int seed, int steps) {
            if (!has(state)) {
                return -2;
            }
            return steps < 0 || steps > 1000 ? -1 : path(state, seed, steps)[steps];
        }

        int sampledVisits(int state, int seed, int steps, int label) {
            if (!has(state)) {
                return -2;
            }
            if (steps < 0 || steps > 1000 || label < 0 || label > 3) {
                return -1;
            }
            int visits = 0;
            for (int u : path(state, seed, steps)) {
                visits += s.labels[u] == label ? 1 : 0;
            }
            return visits;
        }

        int append(int bytes, int count) {
            if (count < 1 || count > 4) {
                return -1;
            }
            StringBuilder more = new StringBuilder();
            byte[] all = java.nio.ByteBuffer.allocate(4).putInt(bytes).array();
            for (int i = 4 - count; i < 4; i++) {
                if (all[i] < 0) {
                    return -1;
                }
                more.append((char) all[i]);
            }
            if (input.length() + count > 80) {
                return -6;
            }
            input += more;
            return input.length();
        }

        int clearInput() {
            int held = input.length();
            input = "";
            return held;
        }

        int parse() {
            String text = input;
            input = "";
            Matcher whole = CHAIN.matcher(text);
            if (!whole.matches()) {
                int position = text.length();
                while (!canGoOn(text.substring(0, position))) {
                    position--;
                }
                return -1000 - position;
            }
            int d = Integer.parseInt(whole.group(1));
            String[] states = whole.group(2).split(";");
            int n = states.length;
            int[] labels = new int[n];
            int[][] w = new int[n][10];
            boolean consistent = d >= 1 && d <= 12;
            for (int i = 0; i < n; i++) {
                String[] parts = states[i].split(",");
                labels[i] = Integer.parseInt(parts[0]);
                consistent &= labels[i] <= 3;
                int sum = 0;
                for (int k = 1; k < parts.length; k++) {
                    String[] edge = parts[k].split(">");
                    int successor = Integer.parseInt(edge[1]);
                    consistent &= successor < n;
                    w[i][successor] += Integer.parseInt(edge[0]);
                    sum += Integer.parseInt(edge[0]);
                }
                consistent &= sum == d;
                w[i] = java.util.Arrays.copyOf(w[i], n);
            }
            if (!consistent) {
                return -8;
            }
            s = new State(n, d, s.p, s.r, labels, w);
            edits.clear();
            return n;
        }

        private static boolean canGoOn(String text) {
            Matcher matcher = CHAIN.matcher(text);
            return matcher.matches() || matcher.hitEnd();
        }

        int allocate(int slot, int type, int size) {
            if (slot < 0 || slot > 3 || type < 0 || type > 3 || size > 40) {
                return -1;
            }
            if (size < 0) {
                return -14;
            }
            slots[slot] = type == 0 ? new byte[size] : type == 1 ? new char[size] : type == 2 ? new int[size] : (Object) new long[size];
            return size;
        }

        int release(int slot) {
            if (slot < 0 || slot > 3) {
                return -1;
            }
            int held = slots[slot] == null ? 0 : 1;
            slots[slot] = null;
            return held;
        }

        int putElement(int slot, int index, long value) {
            if (slot < 0 || slot > 3) {
                return -1;
            }
            if (slots[slot] == null) {
                return -11;
            }
            try {
                if (slots[slot] instanceof byte[] array) {
                    array[index] = (byte) value;
                } else if (slots[slot] instanceof char[] array) {
                    array[index] = (char) value;
                } else if (slots[slot] instanceof int[] array) {
                    array[index] = (int) value;
                } else {
                    ((long[]) slots[slot])[index] = value;
                }
            } catch (ArrayIndexOutOfBoundsException e) {
                return -13;
            }
            return 1;
        }

        long element(int slot, int index) {
            if (slot < 0 || slot > 3 || slots[slot] == null) {
                return NO_VALUE;
            }
            if (index < 0 || index >= java.lang.reflect.Array.getLength(slots[slot])) {
                return NO_VALUE;
            }
            return slots[slot] instanceof char[] array ? array[index] : java.lang.reflect.Array.getLong(slots[slot], index);
        }

        int copyElements(int source, int from, int target, int to, int count) {
            if (source < 0 || source > 3 || target < 0 || target > 3) {
                return -1;
            }
            if (slots[source] == null || slots[target] == null) {
                return -11;
            }
            try {
                System.arraycopy(slots[source], from, slots[target], to, count);
                return count;
            } catch (ArrayStoreException e) {
                return -12;
            } catch (IndexOutOfBoundsException e) {
                return -13;
            }
        }

        int compareWithArray(int slot) {
            if (slot < 0 || slot > 3) {
                return -1;
            }
            if (slots[slot] == null) {
                return -11;
            }
            if (!(slots[slot] instanceof byte[])) {
                return -12;
            }
            byte[] weights = new byte[s.n * s.n];
            for (int i = 0; i < weights.length; i++) {
                weights[i] = (byte) s.w[i / s.n][i % s.n];
            }
            int index = java.util.Arrays.mismatch((byte[]) slots[slot], weights);
            return index < 0 ? -7 : index;
        }

        int snapshot() {
            saved = s;
            return s.n;
        }

        int restore() {
            if (saved == null) {
                return -5;
            }
            s = saved;
            edits.clear();
            return s.n;
        }
    }

    /** Weighs all couplings, row by row, and remembers what the rows below cost for each rest of the columns. */
    private static final class Couplings {
        private final int[] rows;
        private final int[] columns;
        private final long[][] costs;
        private final int n;
        private final List<Map<Integer, Long>> known = new ArrayList<>();

        Couplings(int[] rows, int[] columns, long[][] costs) {
            this.rows = rows;
            this.columns = columns;
            this.costs = costs;
            n = rows.length;
            for (int i = 0; i <= n; i++) {
                known.add(new HashMap<>());
            }
        }

        long best() {
            return bestFrom(0, columns.clone());
        }

        private long bestFrom(int row, int[] rest) {
            if (row == n) {
                return 0;
            }
            int key = 0;
            for (int c : rest) {
                key = 13 * key + c;
            }
            Long answer = known.get(row).get(key);
            if (answer == null) {
                answer = bestInRow(row, 0, rows[row], rest);
                known.get(row).put(key, answer);
            }
            return answer;
        }

        private long bestInRow(int row, int column, int left, int[] rest) {
            if (column == n) {
                return left == 0 ? bestFrom(row + 1, rest) : Long.MAX_VALUE;
            }
            long best = Long.MAX_VALUE;
            for (int entry = 0; entry <= Math.min(left, rest[column]); entry++) {
                rest[column] -= entry;
                long below = bestInRow(row, column + 1, left - entry, rest);
                rest[column] += entry;
                if (below != Long.MAX_VALUE) {
                    best = Math.min(best, below + entry * costs[row][column]);
                }
            }
            return best;
        }

        /** The smallest entry that still allows the best cost, one after the other. */
        int[][] canonical() {
            int[][] entries = new int[n][n];
            int[] rest = columns.clone();
            long due = best();
            for (int row = 0; row < n; row++) {
                int left = rows[row];
                for (int column = 0; column < n; column++) {
                    int entry = 0;
                    rest[column] -= entry;
                    while (!allows(row, column + 1, left - entry, rest, due - entry * costs[row][column])) {
                        entry++;
                        rest[column]--;
                    }
                    entries[row][column] = entry;
                    left -= entry;
                    due -= entry * costs[row][column];
                }
            }
            return entries;
        }

        private boolean allows(int row, int column, int left, int[] rest, long due) {
            return bestInRow(row, column, left, rest) == due;
        }
    }

    /** One object and one model, and the calls that both are given. */
    private static final class Run {
        private final int number;
        private final Random random;
        private final MarkovChainDistances x = new MarkovChainDistances();
        private final Model m = new Model();
        private final StringBuilder told = new StringBuilder();
        private int calls = 0;

        Run(int number) {
            this.number = number;
            random = new Random(number);
        }

        private void due(String call, long got, long want) {
            calls++;
            told.append(call).append(": ").append(got).append("; ");
            if (got != want) {
                wrong++;
                System.out.println("run " + number + ", call " + calls + ": " + call + " answered " + got + ", due is " + want);
                System.out.println("  after " + told);
            }
        }

        void go() {
            int before = wrong;
            while (calls < CALLS && wrong == before) {
                int kind = random.nextInt(100);
                if (kind < 6) {
                    newChain();
                } else if (kind < 30) {
                    edit();
                } else if (kind < 55) {
                    askDistances();
                } else if (kind < 70) {
                    askPaths();
                } else if (kind < 76) {
                    typeText();
                } else if (kind < 88) {
                    useArrays();
                } else {
                    askPlainly();
                }
            }
        }

        /** A chain with many weights and some classes of like states, its distances, and whole couplings. */
        void goDense() {
            int n = 3 + random.nextInt(4);
            int d = 1 + random.nextInt(12);
            due("reset(" + n + ", " + d + ")", x.reset(n, d), m.reset(n, d));
            int r = 1 + random.nextInt(4);
            int p = 1 + random.nextInt(r);
            due("setDiscount(" + p + ", " + r + ")", x.setDiscount(p, r), m.setDiscount(p, r));
            spreadWeights(n, d);
            for (int a = 0; a < n; a++) {
                due("bisimulationClass(" + a + ")", x.bisimulationClass(a), m.bisimulation()[a]);
            }
            int last = Math.min(15, m.maximumDepth());
            for (int k = 0; k < 6; k++) {
                int depth = k == 0 ? last : random.nextInt(last + 1);
                int pair = 10 * random.nextInt(n) + random.nextInt(n);
                due("farthestPair(" + depth + ")", x.farthestPair(depth), m.farthestPair(depth));
                askDistance(depth, pair / 10, pair % 10);
                wholeCoupling(depth, pair);
            }
            due("minimize()", x.minimize(), m.minimize());
            lookAtChain();
        }

        private void spreadWeights(int n, int d) {
            int kinds = 1 + random.nextInt(n);
            int[] kindOf = new int[n];
            for (int a = 0; a < n; a++) {
                kindOf[a] = a < kinds ? a : random.nextInt(kinds);
            }
            int labels = 1 + random.nextInt(3);
            for (int kind = 0; kind < kinds; kind++) {
                int label = random.nextInt(labels);
                int[] targets = new int[d];
                for (int k = 0; k < d; k++) {
                    targets[k] = random.nextInt(kinds);
                }
                for (int a = 0; a < n; a++) {
                    if (kindOf[a] == kind) {
                        due("setLabel(" + a + ", " + label + ")", x.setLabel(a, label), m.setLabel(a, label));
                        for (int target : targets) {
                            int to = random.nextInt(n);
                            while (kindOf[to] != target) {
                                to = random.nextInt(n);
                            }
                            moveOwnWeight(a, to);
                        }
                    }
                }
            }
        }

        private void moveOwnWeight(int state, int to) {
            if (m.s.w[state][state] > 0) {
                due("moveWeight(" + state + ", " + state + ", " + to + ", 1)", x.moveWeight(state, state, to, 1), m.moveWeight(state, state, to, 1));
            }
        }

        private void wholeCoupling(int depth, int pair) {
            int n = m.s.n;
            for (int row = 0; row < n; row++) {
                for (int column = 0; column < n; column++) {
                    due("coupling(" + depth + ", " + pair + ", " + row + ", " + column + ")",
                            x.coupling(depth, pair, row, column), m.coupling(depth, pair, row, column));
                }
            }
        }

        private void askDistance(int depth, int a, int b) {
            String what = "(" + depth + ", " + a + ", " + b + ")";
            due("distanceNumerator" + what, x.distanceNumerator(depth, a, b), m.distance(depth, a, b, true));
            due("distanceDenominator" + what, x.distanceDenominator(depth, a, b), m.distance(depth, a, b, false));
        }

        /** A number from low to high, seldom a little or far outside. */
        private int pick(int low, int high) {
            int luck = random.nextInt(60);
            if (luck == 0) {
                return low - 1;
            }
            if (luck == 1) {
                return high + 1;
            }
            if (luck == 2) {
                return random.nextInt();
            }
            return low + random.nextInt(high - low + 1);
        }

        private int state() {
            return pick(0, m.s.n - 1);
        }

        private int pair() {
            return random.nextInt(40) == 0 ? random.nextInt(120) - 20 : 10 * random.nextInt(m.s.n) + random.nextInt(m.s.n);
        }

        private int depth() {
            return random.nextInt(3) > 0 ? random.nextInt(4) : pick(0, random.nextBoolean() ? 15 : Math.min(15, m.maximumDepth()));
        }

        private void type(String text) {
            for (int i = 0; i < text.length();) {
                int count = Math.min(1 + random.nextInt(4), text.length() - i);
                int bytes = random.nextInt();
                for (int k = 0; k < count; k++) {
                    bytes = bytes << 8 | text.charAt(i + k);
                }
                due("append(" + bytes + ", " + count + ")", x.append(bytes, count), m.append(bytes, count));
                i += count;
            }
        }

        private void newChain() {
            if (random.nextInt(3) == 0) {
                int n = pick(1, 6);
                int d = pick(1, 12);
                due("reset(" + n + ", " + d + ")", x.reset(n, d), m.reset(n, d));
                return;
            }
            if (random.nextInt(4) > 0) {
                due("clearInput()", x.clearInput(), m.clearInput());
            }
            type(spoiled(chainText()));
            due("parse()", x.parse(), m.parse());
            lookAtChain();
        }

        private String chainText() {
            int n = 1 + random.nextInt(6);
            int d = 1 + random.nextInt(random.nextBoolean() ? 4 : 12);
            int labels = 1 + random.nextInt(4);
            int spread = 1 + random.nextInt(3);
            StringBuilder text = new StringBuilder().append(d).append(':');
            for (int i = 0; i < n; i++) {
                text.append(i > 0 ? ";" : "").append(random.nextInt(labels));
                int left = d;
                for (int k = 0; left > 0; k++) {
                    int part = k >= spread ? left : 1 + random.nextInt(left);
                    text.append(',').append(part).append('>').append(random.nextInt(n));
                    left -= part;
                }
            }
            return text.toString();
        }

        private String spoiled(String text) {
            if (random.nextInt(3) > 0) {
                return text;
            }
            StringBuilder spoiled = new StringBuilder(text);
            String signs = "0123456789:;,> -\0\n\177";
            for (int k = random.nextInt(3); k >= 0; k--) {
                int at = random.nextInt(spoiled.length());
                char sign = signs.charAt(random.nextInt(signs.length()));
                switch (random.nextInt(4)) {
                    case 0 -> spoiled.setCharAt(at, sign);
                    case 1 -> spoiled.insert(at, sign);
                    case 2 -> spoiled.setLength(at + 1);
                    default -> spoiled.append(sign);
                }
            }
            return spoiled.toString();
        }

        private void lookAtChain() {
            due("states()", x.states(), m.s.n);
            due("resolution()", x.resolution(), m.s.d);
            for (int i = 0; i < m.s.n; i++) {
                due("label(" + i + ")", x.label(i), m.s.labels[i]);
                for (int j = 0; j < m.s.n; j++) {
                    due("weight(" + i + ", " + j + ")", x.weight(i, j), m.s.w[i][j]);
                }
            }
        }

        private void edit() {
            int a = state();
            int b = state();
            int c = state();
            switch (random.nextInt(9)) {
                case 0 -> {
                    int label = pick(0, 3);
                    due("setLabel(" + a + ", " + label + ")", x.setLabel(a, label), m.setLabel(a, label));
                }
                case 1, 2, 3, 4 -> {
                    int amount = random.nextInt(3) == 0 ? pick(0, 12) : 1 + random.nextInt(3);
                    due("moveWeight(" + a + ", " + b + ", " + c + ", " + amount + ")", x.moveWeight(a, b, c, amount), m.moveWeight(a, b, c, amount));
                }
                case 5 -> {
                    int r = pick(1, 4);
                    int p = pick(0, Math.max(1, Math.min(r, 5)));
                    due("setDiscount(" + p + ", " + r + ")", x.setDiscount(p, r), m.setDiscount(p, r));
                }
                case 6 -> due("swapStates(" + a + ", " + b + ")", x.swapStates(a, b), m.swapStates(a, b));
                case 7 -> {
                    for (int k = random.nextInt(random.nextInt(8) == 0 ? 12 : 2); k >= 0; k--) {
                        due("undo()", x.undo(), m.undo());
                    }
                }
                default -> {
                    switch (random.nextInt(6)) {
                        case 0 -> due("restore()", x.restore(), m.restore());
                        case 1 -> due("minimize()", x.minimize(), m.minimize());
                        default -> due("snapshot()", x.snapshot(), m.snapshot());
                    }
                }
            }
            due("editCount()", x.editCount(), m.edits.size());
            if (random.nextInt(10) == 0) {
                lookAtChain();
            }
        }

        private void askDistances() {
            int depth = depth();
            int a = state();
            int b = state();
            int pair = pair();
            switch (random.nextInt(5)) {
                case 0 -> askDistance(depth, a, b);
                case 1 -> {
                    int other = pair();
                    due("compareDistances(" + depth + ", " + pair + ", " + other + ")", x.compareDistances(depth, pair, other), m.compareDistances(depth, pair, other));
                }
                case 2 -> due("farthestPair(" + depth + ")", x.farthestPair(depth), m.farthestPair(depth));
                case 3 -> due("coupling(" + depth + ", " + pair + ", " + a + ", " + b + ")", x.coupling(depth, pair, a, b), m.coupling(depth, pair, a, b));
                default -> {
                    for (int k = 0; k < 4; k++) {
                        int row = random.nextInt(m.s.n);
                        int column = random.nextInt(m.s.n);
                        due("coupling(" + depth + ", " + pair + ", " + row + ", " + column + ")", x.coupling(depth, pair, row, column), m.coupling(depth, pair, row, column));
                    }
                }
            }
        }

        private void askPaths() {
            int a = state();
            int set = pick(0, 15);
            int steps = pick(0, 12);
            int seed = random.nextInt();
            int walk = random.nextInt(4) == 0 ? pick(0, 1000) : random.nextInt(12);
            int label = pick(0, 3);
            switch (random.nextInt(5)) {
                case 0 -> due("reachWeight(" + a + ", " + set + ", " + steps + ")", x.reachWeight(a, set, steps), m.reach(a, set, steps, false));
                case 1 -> due("firstReachWeight(" + a + ", " + set + ", " + steps + ")", x.firstReachWeight(a, set, steps), m.reach(a, set, steps, true));
                case 2 -> due("sample(" + a + ", " + seed + ", " + walk + ")", x.sample(a, seed, walk), m.sample(a, seed, walk));
                case 3 -> due("sampledVisits(" + a + ", " + seed + ", " + walk + ", " + label + ")", x.sampledVisits(a, seed, walk, label), m.sampledVisits(a, seed, walk, label));
                default -> {
                    due("clearInput()", x.clearInput(), m.clearInput());
                    StringBuilder digits = new StringBuilder();
                    int start = random.nextInt(m.s.n);
                    int[] path = m.path(start, seed, random.nextInt(8) == 0 ? 13 : random.nextInt(13));
                    for (int u : path) {
                        digits.append(random.nextInt(80) == 0 ? random.nextInt(5) : m.s.labels[u]);
                    }
                    type(digits.toString());
                    int from = random.nextInt(8) == 0 ? a : start;
                    due("sequenceWeight(" + from + ")", x.sequenceWeight(from), m.sequenceWeight(from));
                    due("clearInput()", x.clearInput(), m.clearInput());
                }
            }
        }

        private void typeText() {
            int bytes = random.nextInt(3) == 0 ? random.nextInt() : random.nextInt() & 0x7F7F7F7F;
            int count = pick(1, 4);
            due("append(" + bytes + ", " + count + ")", x.append(bytes, count), m.append(bytes, count));
            if (random.nextInt(30) == 0) {
                for (int k = 0; k < 20; k++) {
                    due("append(808464432, 4)", x.append(808464432, 4), m.append(808464432, 4));
                }
            }
            if (random.nextInt(10) == 0) {
                due("clearInput()", x.clearInput(), m.clearInput());
            }
            if (random.nextInt(10) == 0) {
                due("parse()", x.parse(), m.parse());
            }
            if (random.nextInt(10) == 0) {
                due("sequenceWeight(0)", x.sequenceWeight(0), m.sequenceWeight(0));
            }
        }

        private void useArrays() {
            int slot = pick(0, 3);
            int index = pick(0, random.nextBoolean() ? 5 : 39);
            switch (random.nextInt(7)) {
                case 0 -> {
                    int type = random.nextBoolean() ? 0 : pick(0, 3);
                    int size = random.nextInt(3) == 0 ? m.s.n * m.s.n : pick(0, 40);
                    due("allocate(" + slot + ", " + type + ", " + size + ")", x.allocate(slot, type, size), m.allocate(slot, type, size));
                }
                case 1 -> {
                    if (random.nextInt(3) == 0) {
                        due("release(" + slot + ")", x.release(slot), m.release(slot));
                    }
                }
                case 2 -> {
                    long value = random.nextLong() >> random.nextInt(64);
                    due("putElement(" + slot + ", " + index + ", " + value + ")", x.putElement(slot, index, value), m.putElement(slot, index, value));
                }
                case 3 -> due("element(" + slot + ", " + index + ")", x.element(slot, index), m.element(slot, index));
                case 4 -> {
                    int target = random.nextBoolean() ? slot : pick(0, 3);
                    int to = pick(0, 20);
                    int count = pick(0, 20);
                    due("copyElements(" + slot + ", " + index + ", " + target + ", " + to + ", " + count + ")",
                            x.copyElements(slot, index, target, to, count), m.copyElements(slot, index, target, to, count));
                }
                case 5 -> due("compareWithArray(" + slot + ")", x.compareWithArray(slot), m.compareWithArray(slot));
                default -> {
                    if (slot >= 0 && slot <= 3 && random.nextInt(4) == 0) {
                        for (int i = 0; i < m.s.n * m.s.n - random.nextInt(2); i++) {
                            int weight = m.s.w[i / m.s.n][i % m.s.n];
                            due("putElement(" + slot + ", " + i + ", " + weight + ")", x.putElement(slot, i, weight), m.putElement(slot, i, weight));
                        }
                        due("compareWithArray(" + slot + ")", x.compareWithArray(slot), m.compareWithArray(slot));
                    }
                }
            }
        }

        private void askPlainly() {
            int a = state();
            int b = state();
            int kind = pick(0, 3);
            switch (random.nextInt(6)) {
                case 0 -> due("label(" + a + ")", x.label(a), m.has(a) ? m.s.labels[a] : -2);
                case 1 -> due("weight(" + a + ", " + b + ")", x.weight(a, b), m.has(a) && m.has(b) ? m.s.w[a][b] : -2);
                case 2 -> due("maximumDepth()", x.maximumDepth(), m.maximumDepth());
                case 3 -> due("distributionDistance(" + a + ", " + b + ", " + kind + ")", x.distributionDistance(a, b, kind), m.distributionDistance(a, b, kind));
                case 4 -> due("bisimulationClass(" + a + ")", x.bisimulationClass(a), m.has(a) ? m.bisimulation()[a] : -2);
                default -> due("bisimulationClassCount()", x.bisimulationClassCount(), m.classCount());
            }
        }
    }
}
