import java.math.BigInteger;
import java.util.ArrayDeque;
import java.util.ArrayList;
import java.util.Arrays;
import java.util.List;
import java.util.NoSuchElementException;

/**
 * Long runs of calls, made by a fixed row of numbers, on the class and on a
 * model that is written from the document in another way, with the library.
 */
public final class TokenFlowAgainstModel {
    private static final int RUNS = 2000;
    // What an object answers behind its 512th call is free.
    private static final int CALLS = 512;
    // clear(), a whole new network, and some looks.
    private static final int CALLS_OF_A_STEP = 30;
    private static final String[] KINDS_OF_PLAN = {"IllegalStateException", "ArithmeticException",
        "UnsupportedOperationException", "NoSuchElementException", "number"};

    private static int wrong = 0;
    private static final int[] plansSeen = new int[KINDS_OF_PLAN.length];

    private final int run;
    private final TokenFlow made = new TokenFlow();
    private final Model model = new Model();
    private long seed;
    private int calls = 0;
    // Wished repetitions, so that many networks have a plan.
    private final int[] wish = new int[8];

    private TokenFlowAgainstModel(int run) {
        this.run = run;
        this.seed = run * 7919L + 17;
    }

    public static void main(String[] args) {
        for (int run = 0; run < RUNS && wrong == 0; run++) {
            new TokenFlowAgainstModel(run).go();
        }
        for (int k = 0; k < KINDS_OF_PLAN.length; k++) {
            if (plansSeen[k] < 100) {
                wrong++;
                System.out.println("only " + plansSeen[k] + " plans answered " + KINDS_OF_PLAN[k]);
            }
        }
        System.out.println("plans by answer: " + Arrays.toString(plansSeen));
        System.out.println(wrong == 0 ? "the class answers as the model" : wrong + " answers are not as due");
        if (wrong != 0) {
            System.exit(1);
        }
    }

    private void go() {
        build();
        while (calls + CALLS_OF_A_STEP <= CALLS && wrong == 0) {
            change();
            for (int k = below(4); k > 0; k--) {
                ask();
            }
            if (below(12) == 0 && calls + callsOfAskAll() <= CALLS) {
                askAll();
            }
        }
    }

    private int below(int limit) {
        seed = seed * 6364136223846793005L + 1442695040888963407L;
        return (int) ((seed >>> 33) % limit);
    }

    private int number() {
        int[] far = {Integer.MIN_VALUE, Integer.MAX_VALUE, 1 << 30, -(1 << 30)};
        return below(6) == 0 ? far[below(far.length)] : below(41) - 20;
    }

    private int near(int limit) {
        return below(15) == 0 ? number() : below(limit + 1);
    }

    private void chooseWish() {
        int[][] rows = {{1, 1, 2, 3, 4, 6, 9}, {6, 9, 12, 18, 27}, {7, 8, 49, 56, 63}, {1, 9, 81}, {4, 10, 12, 84, 90}};
        int[] row = rows[below(rows.length)];
        for (int n = 0; n < wish.length; n++) {
            wish[n] = row[below(row.length)];
        }
    }

    private void change() {
        switch (below(30)) {
            case 0:
                if (below(2) == 0) {
                    made.clear();
                    model.clear();
                    compare("clear()", "", "");
                    build();
                }
                break;
            case 1:
                made.reset();
                model.reset();
                compare("reset()", "", "");
                break;
            case 2: case 3: case 4:
                if (model.actors.size() < 3 || below(6) == 0) {
                    addActor(below(20) == 0 ? number() : below(6), below(8) == 0);
                }
                break;
            case 5: case 6: case 7: case 8:
                if (model.edges.size() < model.actors.size() + 1 || below(6) == 0) {
                    addEdge();
                }
                break;
            case 9: case 10:
                int e = near(12);
                int waiting = near(9);
                compare("delay(" + e + ", " + waiting + ")", made.delay(e, waiting), model.delay(e, waiting));
                break;
            case 11: case 12: case 13: case 14: case 15: case 16: case 17: case 18:
                comparePlans();
                break;
            default:
                int n = below(3) == 0 ? near(21) : 1 + below(3);
                compare("run(" + n + ")", runMade(n), model.run(n));
                break;
        }
    }

    /** Mostly a tree of actors, so that the network is connected, and some edges more. */
    private void build() {
        chooseWish();
        int size = below(9);
        boolean anyNumbers = below(4) == 0;
        for (int n = 0; n < size; n++) {
            addActor(below(6), anyNumbers);
        }
        for (int more = below(4); more > 0; more--) {
            addEdge();
        }
    }

    private void addActor(int kind, boolean anyNumbers) {
        int a = number();
        int n = model.actor(kind, a);
        compare("actor(" + kind + ", " + a + ")", made.actor(kind, a), n);
        if (n > 0 && below(30) != 0) {
            joinToEarlier(n, anyNumbers);
        }
    }

    private void joinToEarlier(int n, boolean anyNumbers) {
        int other = below(n);
        boolean out = below(2) == 0;
        int common = commonDivisor(wish[n], wish[other]);
        int mine = anyNumbers ? 1 + below(9) : wish[other] / common;
        int theirs = anyNumbers ? 1 + below(9) : wish[n] / common;
        tryEdge(out ? n : other, out ? other : n, out ? mine : theirs, out ? theirs : mine, below(10));
    }

    private static int commonDivisor(int one, int other) {
        return BigInteger.valueOf(one).gcd(BigInteger.valueOf(other)).intValue();
    }

    private void addEdge() {
        int actors = Math.max(1, model.actors.size());
        int from = below(20) == 0 ? number() : below(actors);
        int to = below(20) == 0 ? number() : below(actors);
        int gives = near(9);
        int takes = near(9);
        if (below(12) != 0 && from >= 0 && from < 8 && to >= 0 && to < 8) {
            int common = commonDivisor(wish[from], wish[to]);
            int times = 1 + below(3);
            gives = wish[to] / common * times;
            takes = wish[from] / common * times;
        }
        tryEdge(from, to, gives, takes, from < to ? near(3) : near(9));
    }

    private void tryEdge(int from, int to, int gives, int takes, int waiting) {
        compare("edge(" + from + ", " + to + ", " + gives + ", " + takes + ", " + waiting + ")",
            made.edge(from, to, gives, takes, waiting), model.edge(from, to, gives, takes, waiting));
    }

    private void comparePlans() {
        String due = model.plan();
        compare("plan()", planMade(), due);
        for (int k = 0; k < KINDS_OF_PLAN.length; k++) {
            if (due.equals(KINDS_OF_PLAN[k]) || k == KINDS_OF_PLAN.length - 1) {
                plansSeen[k]++;
                break;
            }
        }
    }

    private void ask() {
        int n = near(8);
        int k = near(9);
        switch (below(10)) {
            case 0: compare("actors()", made.actors(), model.actors.size()); break;
            case 1: compare("edges()", made.edges(), model.edges.size()); break;
            case 2: compare("planned()", made.planned(), model.plan.size()); break;
            case 3: compare("firing(" + k + ")", made.firing(k), model.firing(k)); break;
            case 4: compare("repetitions(" + n + ")", made.repetitions(n), model.repetitions(n)); break;
            case 5: compare("bound(" + k + ")", made.bound(k), model.bound(k)); break;
            case 6: compare("tokens(" + k + ")", made.tokens(k), model.tokens(k)); break;
            case 7: compare("token(" + n + ", " + k + ")", made.token(n, k), model.token(n, k)); break;
            case 8: compare("value(" + n + ")", made.value(n), model.value(n)); break;
            default: compare("state(" + n + ")", made.state(n), model.state(n)); break;
        }
    }

    /** Looks at everything, and one step beyond it on both sides. */
    private void askAll() {
        for (int n = -1; n <= model.actors.size(); n++) {
            compare("repetitions(" + n + ")", made.repetitions(n), model.repetitions(n));
            compare("value(" + n + ")", made.value(n), model.value(n));
            compare("state(" + n + ")", made.state(n), model.state(n));
        }
        for (int e = -1; e <= model.edges.size(); e++) {
            compare("bound(" + e + ")", made.bound(e), model.bound(e));
            compare("tokens(" + e + ")", made.tokens(e), model.tokens(e));
            for (int k = -1; k <= Math.max(0, model.tokens(e)); k++) {
                compare("token(" + e + ", " + k + ")", made.token(e, k), model.token(e, k));
            }
        }
        for (int i = -1; i <= model.plan.size(); i++) {
            compare("firing(" + i + ")", made.firing(i), model.firing(i));
        }
    }

    private int callsOfAskAll() {
        int count = 3 * (model.actors.size() + 2) + 2 * (model.edges.size() + 2) + model.plan.size() + 2;
        for (int e = -1; e <= model.edges.size(); e++) {
            count += Math.max(0, model.tokens(e)) + 2;
        }
        return count;
    }

    private String planMade() {
        try {
            return Integer.toString(made.plan());
        } catch (IllegalStateException | ArithmeticException | UnsupportedOperationException
                | NoSuchElementException e) {
            return e.getClass().getSimpleName();
        }
    }

    private String runMade(int n) {
        try {
            return Integer.toString(made.run(n));
        } catch (IllegalStateException | IllegalArgumentException e) {
            return e.getClass().getSimpleName();
        }
    }

    private void compare(String call, Object got, Object want) {
        calls++;
        if (!got.equals(want)) {
            wrong++;
            System.out.println("run " + run + ", call " + calls + ": " + call + " answered " + got
                + ", due is " + want);
        }
    }

    private record Line(int from, int to, int gives, int takes, int[] waiting, ArrayDeque<Integer> lying) { }

    private record Doer(int kind, int a, int[] state, int[] value) { }

    /** The document once more, plainly. */
    private static final class Model {
        final List<Doer> actors = new ArrayList<>();
        final List<Line> edges = new ArrayList<>();
        final List<Integer> plan = new ArrayList<>();
        final List<Integer> bounds = new ArrayList<>();

        int actor(int kind, int a) {
            if (kind < 0 || kind > 5) {
                return -1;
            }
            if (actors.size() == 8) {
                return -2;
            }
            actors.add(new Doer(kind, a, new int[1], new int[1]));
            changed();
            return actors.size() - 1;
        }

        int edge(int from, int to, int gives, int takes, int waiting) {
            if (Math.min(from, to) < 0 || Math.max(from, to) >= actors.size()) {
                return -1;
            }
            if (Math.min(gives, takes) < 1 || Math.max(gives, takes) > 9 || waiting < 0 || waiting > 9) {
                return -2;
            }
            if (edges.size() == 12) {
                return -3;
            }
            edges.add(new Line(from, to, gives, takes, new int[] {waiting}, new ArrayDeque<>()));
            changed();
            return edges.size() - 1;
        }

        boolean delay(int e, int waiting) {
            if (e < 0 || e >= edges.size() || waiting < 0 || waiting > 9) {
                return false;
            }
            edges.get(e).waiting()[0] = waiting;
            changed();
            return true;
        }

        void clear() {
            actors.clear();
            edges.clear();
            changed();
        }

        void changed() {
            plan.clear();
            reset();
        }

        void reset() {
            for (Doer actor : actors) {
                actor.state()[0] = actor.a();
                actor.value()[0] = 0;
            }
            for (Line edge : edges) {
                edge.lying().clear();
                for (int k = 0; k < edge.waiting()[0]; k++) {
                    edge.lying().addLast(0);
                }
            }
        }

        String plan() {
            plan.clear();
            if (actors.isEmpty() || !oneGroup()) {
                return "IllegalStateException";
            }
            BigInteger[] least = leastRepetitions();
            if (least.length == 0) {
                return "ArithmeticException";
            }
            BigInteger all = BigInteger.ZERO;
            for (BigInteger one : least) {
                all = all.add(one);
            }
            if (all.compareTo(BigInteger.valueOf(200)) > 0) {
                return "UnsupportedOperationException";
            }
            if (!laidOut(least, all.intValue())) {
                plan.clear();
                return "NoSuchElementException";
            }
            reset();
            return Integer.toString(plan.size());
        }

        boolean oneGroup() {
            int[] group = new int[actors.size()];
            for (int n = 0; n < group.length; n++) {
                group[n] = n;
            }
            for (Line edge : edges) {
                int gone = group[edge.from()];
                int kept = group[edge.to()];
                for (int n = 0; n < group.length; n++) {
                    if (group[n] == gone) {
                        group[n] = kept;
                    }
                }
            }
            for (int one : group) {
                if (one != group[0]) {
                    return false;
                }
            }
            return true;
        }

        /** Fractions of the first actor's repetitions, brought to their common denominator; empty if none. */
        BigInteger[] leastRepetitions() {
            BigInteger[] over = new BigInteger[actors.size()];
            BigInteger[] under = new BigInteger[actors.size()];
            follow(0, BigInteger.ONE, BigInteger.ONE, over, under);
            BigInteger shared = BigInteger.ONE;
            for (BigInteger one : under) {
                shared = shared.multiply(one).divide(shared.gcd(one));
            }
            BigInteger[] least = new BigInteger[actors.size()];
            for (int n = 0; n < least.length; n++) {
                least[n] = over[n].multiply(shared).divide(under[n]);
            }
            for (Line edge : edges) {
                BigInteger given = least[edge.from()].multiply(BigInteger.valueOf(edge.gives()));
                if (!given.equals(least[edge.to()].multiply(BigInteger.valueOf(edge.takes())))) {
                    return new BigInteger[0];
                }
            }
            return least;
        }

        void follow(int n, BigInteger top, BigInteger bottom, BigInteger[] over, BigInteger[] under) {
            if (over[n] != null) {
                return;
            }
            BigInteger common = top.gcd(bottom);
            over[n] = top.divide(common);
            under[n] = bottom.divide(common);
            for (Line edge : edges) {
                BigInteger gives = BigInteger.valueOf(edge.gives());
                BigInteger takes = BigInteger.valueOf(edge.takes());
                if (edge.from() == n) {
                    follow(edge.to(), over[n].multiply(gives), under[n].multiply(takes), over, under);
                }
                if (edge.to() == n) {
                    follow(edge.from(), over[n].multiply(takes), under[n].multiply(gives), over, under);
                }
            }
        }

        boolean laidOut(BigInteger[] least, int all) {
            int[] left = new int[least.length];
            for (int n = 0; n < left.length; n++) {
                left[n] = least[n].intValue();
            }
            bounds.clear();
            for (int e = 0; e < edges.size(); e++) {
                bounds.add(edges.get(e).waiting()[0]);
            }
            while (plan.size() < all) {
                int chosen = -1;
                for (int n = left.length - 1; n >= 0; n--) {
                    if (left[n] > 0 && fed(n)) {
                        chosen = n;
                    }
                }
                if (chosen < 0) {
                    return false;
                }
                left[chosen]--;
                plan.add(chosen);
                for (int e = 0; e < edges.size(); e++) {
                    bounds.set(e, Math.max(bounds.get(e), countBehindPlan(e)));
                }
            }
            return true;
        }

        boolean fed(int n) {
            for (int e = 0; e < edges.size(); e++) {
                if (edges.get(e).to() == n && countBehindPlan(e) < edges.get(e).takes()) {
                    return false;
                }
            }
            return true;
        }

        /** The tokens on an edge when the plan, as far as it goes, has been run from the start. */
        int countBehindPlan(int e) {
            Line edge = edges.get(e);
            int count = edge.waiting()[0];
            for (int n : plan) {
                count += (n == edge.from() ? edge.gives() : 0) - (n == edge.to() ? edge.takes() : 0);
            }
            return count;
        }

        String run(int n) {
            if (plan.isEmpty()) {
                return "IllegalStateException";
            }
            if (n < 1 || n > 20) {
                return "IllegalArgumentException";
            }
            int fired = 0;
            for (int round = 0; round < n; round++) {
                for (int one : plan) {
                    fire(one);
                    fired++;
                }
            }
            return Integer.toString(fired);
        }

        void fire(int n) {
            List<Integer> got = new ArrayList<>();
            for (Line edge : edges) {
                for (int k = 0; edge.to() == n && k < edge.takes(); k++) {
                    got.add(edge.lying().removeFirst());
                }
            }
            Doer actor = actors.get(n);
            int value = work(actor, got);
            actor.value()[0] = value;
            for (Line edge : edges) {
                for (int k = 0; edge.from() == n && k < edge.gives(); k++) {
                    edge.lying().addLast(value + k);
                }
            }
        }

        int work(Doer actor, List<Integer> got) {
            int sum = got.stream().mapToInt(Integer::intValue).sum();
            if (actor.kind() == 0) {
                return actor.state()[0]++;
            }
            if (actor.kind() == 1) {
                return sum + actor.a();
            }
            if (actor.kind() == 2) {
                return sum * actor.a();
            }
            if (actor.kind() == 3) {
                actor.state()[0] += sum;
                return actor.state()[0];
            }
            if (actor.kind() == 4) {
                return got.stream().mapToInt(Integer::intValue).max().orElse(actor.a());
            }
            int mix = 0;
            for (int one : got) {
                mix = 31 * mix + one;
            }
            return mix + actor.a();
        }

        int firing(int i) {
            return i < 0 || i >= plan.size() ? -1 : plan.get(i);
        }

        int repetitions(int n) {
            return (int) plan.stream().filter(one -> one == n).count();
        }

        int bound(int e) {
            return plan.isEmpty() || e < 0 || e >= edges.size() ? -1 : bounds.get(e);
        }

        int tokens(int e) {
            return e < 0 || e >= edges.size() ? -1 : edges.get(e).lying().size();
        }

        int token(int e, int k) {
            if (k < 0 || k >= tokens(e)) {
                return 0;
            }
            return new ArrayList<>(edges.get(e).lying()).get(k);
        }

        int value(int n) {
            return n < 0 || n >= actors.size() ? 0 : actors.get(n).value()[0];
        }

        int state(int n) {
            return n < 0 || n >= actors.size() ? 0 : actors.get(n).state()[0];
        }
    }
}
