import java.util.NoSuchElementException;

/** One part for each promise of the document, called by the promise's number. */
public final class TokenFlowPromises {
    private static final int COUNT = 0;
    private static final int SUM = 1;
    private static final int SCALE = 2;
    private static final int STORE = 3;
    private static final int GREATEST = 4;
    private static final int MIX = 5;

    private static final int[] NO_NUMBERS = {-1, 8, 12, 1000, Integer.MIN_VALUE, Integer.MAX_VALUE};

    private static int wrong = 0;
    private static int promise = 0;

    public static void main(String[] args) {
        promise1NewObject();
        promise2Actor();
        promise3Edge();
        promise4Delay();
        promise5Reset();
        promise6Clear();
        promise7And8Counts();
        promise9PlanThrows();
        promise9PlanAnswers();
        promise10Planned();
        promise11Firing();
        promise12Repetitions();
        promise13Bound();
        promise14Run();
        promise15Tokens();
        promise16Token();
        promise17Value();
        promise17ValueByKind();
        promise17Wraps();
        promise18State();
        refusedCallsChangeNothing();
        changesBringToStart();
        System.out.println(wrong == 0 ? "all promises hold" : wrong + " answers are not as due");
        if (wrong != 0) {
            System.exit(1);
        }
    }

    private static void promise1NewObject() {
        promise = 1;
        TokenFlow x = new TokenFlow();
        due("actors()", x.actors(), 0);
        due("edges()", x.edges(), 0);
        due("planned()", x.planned(), 0);
        due("firing(0)", x.firing(0), -1);
        due("repetitions(0)", x.repetitions(0), 0);
        due("bound(0)", x.bound(0), -1);
        due("tokens(0)", x.tokens(0), -1);
        due("token(0, 0)", x.token(0, 0), 0);
        due("value(0)", x.value(0), 0);
        due("state(0)", x.state(0), 0);
        due("delay(0, 0)", x.delay(0, 0), false);
        due("run(1)", run(x, 1), "IllegalStateException");
        x.reset();
        x.clear();
        due("actors() behind clear()", x.actors(), 0);
    }

    private static void promise2Actor() {
        promise = 2;
        TokenFlow x = new TokenFlow();
        for (int kind : new int[] {-1, 6, Integer.MIN_VALUE, Integer.MAX_VALUE}) {
            due("actor of kind " + kind, x.actor(kind, 3), -1);
        }
        for (int n = 0; n < 8; n++) {
            due("actor " + n, x.actor(n % 6, n == 0 ? Integer.MIN_VALUE : 100 + n), n);
        }
        due("the ninth", x.actor(0, 0), -2);
        due("the ninth, of no kind", x.actor(6, 0), -1);
        due("actors()", x.actors(), 8);
        due("state(0)", x.state(0), Integer.MIN_VALUE);
        due("state(7)", x.state(7), 107);
        TokenFlow y = new TokenFlow();
        due("another object's first", y.actor(MIX, 1), 0);
    }

    private static void promise3Edge() {
        promise = 3;
        TokenFlow x = new TokenFlow();
        due("no actors yet", x.edge(0, 0, 1, 1, 0), -1);
        x.actor(SUM, 0);
        x.actor(SUM, 0);
        due("from 2", x.edge(2, 0, 1, 1, 0), -1);
        due("to 2", x.edge(0, 2, 1, 1, 0), -1);
        for (int n : NO_NUMBERS) {
            due("from " + n, x.edge(n, 0, 1, 1, 0), -1);
            due("to " + n + ", and gives wrong", x.edge(0, n, 0, 1, 0), -1);
        }
        for (int no : new int[] {0, -1, 10, Integer.MIN_VALUE, Integer.MAX_VALUE}) {
            due("gives " + no, x.edge(0, 1, no, 1, 0), -2);
            due("takes " + no, x.edge(0, 1, 1, no, 0), -2);
        }
        for (int no : new int[] {-1, 10, Integer.MIN_VALUE, Integer.MAX_VALUE}) {
            due("waiting " + no, x.edge(0, 1, 1, 1, no), -2);
        }
        due("edges()", x.edges(), 0);
        for (int e = 0; e < 12; e++) {
            due("edge " + e, x.edge(e % 2, e / 2 % 2, 1 + e % 9, 9 - e % 9, e % 10), e);
            due("tokens(" + e + ")", x.tokens(e), e % 10);
        }
        due("the thirteenth", x.edge(0, 1, 1, 1, 0), -3);
        due("the thirteenth, gives wrong", x.edge(0, 1, 10, 1, 0), -2);
        due("the thirteenth, of no actor", x.edge(0, 5, 10, 1, 0), -1);
        due("edges()", x.edges(), 12);
    }

    private static void promise4Delay() {
        promise = 4;
        TokenFlow x = ring(2);
        due("plan()", plan(x), "2");
        due("delay(2, 1)", x.delay(2, 1), false);
        for (int no : NO_NUMBERS) {
            due("delay(" + no + ", 1)", x.delay(no, 1), false);
        }
        for (int no : new int[] {-1, 10, Integer.MIN_VALUE, Integer.MAX_VALUE}) {
            due("delay(1, " + no + ")", x.delay(1, no), false);
        }
        due("planned() behind refusals", x.planned(), 2);
        for (int waiting = 0; waiting <= 9; waiting++) {
            due("delay(1, " + waiting + ")", x.delay(1, waiting), true);
            due("tokens(1)", x.tokens(1), waiting);
            due("plan()", plan(x), waiting == 0 ? "NoSuchElementException" : "2");
        }
        due("run(1)", run(x, 1), "2");
        due("delay(1, 9) once more", x.delay(1, 9), true);
        due("planned()", x.planned(), 0);
        due("value(0)", x.value(0), 0);
        due("token(1, 8)", x.token(1, 8), 0);
        due("tokens(0)", x.tokens(0), 0);
    }

    private static void promise5Reset() {
        promise = 5;
        TokenFlow x = ring(2);
        plan(x);
        run(x, 3);
        due("state(0)", x.state(0), 3);
        due("token(1, 1)", x.token(1, 1), 6);
        x.reset();
        due("state(0) behind reset()", x.state(0), 1);
        due("value(0) behind reset()", x.value(0), 0);
        due("value(1) behind reset()", x.value(1), 0);
        due("tokens(0) behind reset()", x.tokens(0), 0);
        due("tokens(1) behind reset()", x.tokens(1), 2);
        due("token(1, 0) behind reset()", x.token(1, 0), 0);
        due("token(1, 1) behind reset()", x.token(1, 1), 0);
        due("planned() behind reset()", x.planned(), 2);
        due("bound(1) behind reset()", x.bound(1), 2);
        due("repetitions(1) behind reset()", x.repetitions(1), 1);
        due("firing(1) behind reset()", x.firing(1), 1);
        due("run(3) behind reset()", run(x, 3), "6");
        due("value(1)", x.value(1), 6);

        TokenFlow y = new TokenFlow();
        y.actor(COUNT, 1);
        y.edge(0, 0, 1, 1, 9);
        plan(y);
        run(y, 13);
        due("token(0, 0)", y.token(0, 0), 5);
        y.reset();
        due("tokens(0) of a loop behind reset()", y.tokens(0), 9);
        for (int k = 0; k < 10; k++) {
            due("token(0, " + k + ") of a loop behind reset()", y.token(0, k), 0);
        }
        run(y, 2);
        due("token(0, 7) of a loop", y.token(0, 7), 1);
        due("token(0, 8) of a loop", y.token(0, 8), 2);
    }

    private static void promise6Clear() {
        promise = 6;
        TokenFlow x = ring(2);
        plan(x);
        run(x, 1);
        x.clear();
        due("actors()", x.actors(), 0);
        due("edges()", x.edges(), 0);
        due("planned()", x.planned(), 0);
        due("firing(0)", x.firing(0), -1);
        due("repetitions(0)", x.repetitions(0), 0);
        due("bound(0)", x.bound(0), -1);
        due("tokens(0)", x.tokens(0), -1);
        due("value(0)", x.value(0), 0);
        due("state(0)", x.state(0), 0);
        due("delay(0, 1)", x.delay(0, 1), false);
        due("edge(0, 1, ..)", x.edge(0, 1, 1, 1, 0), -1);
        due("run(1)", run(x, 1), "IllegalStateException");
        due("plan()", plan(x), "IllegalStateException");
        due("a new actor", x.actor(COUNT, 4), 0);
        due("its state", x.state(0), 4);
        due("its value", x.value(0), 0);
        due("a new edge", x.edge(0, 0, 2, 2, 3), 0);
        due("its tokens", x.tokens(0), 3);
        due("plan()", plan(x), "1");
    }

    private static void promise7And8Counts() {
        promise = 7;
        TokenFlow x = new TokenFlow();
        for (int n = 0; n < 10; n++) {
            x.actor(n, 0);
            due("actors()", x.actors(), Math.min(n + 1, 6));
        }
        promise = 8;
        for (int e = 0; e < 14; e++) {
            x.edge(0, 1, 1, 1, 0);
            due("edges()", x.edges(), Math.min(e + 1, 12));
        }
    }

    private static void promise9PlanThrows() {
        promise = 9;
        TokenFlow x = new TokenFlow();
        due("no actor", plan(x), "IllegalStateException");
        x.actor(SUM, 0);
        due("one actor", plan(x), "1");
        x.actor(SUM, 0);
        due("two apart", plan(x), "IllegalStateException");
        x.edge(0, 0, 1, 2, 0);
        due("two apart, and an edge without repetitions", plan(x), "IllegalStateException");
        x.edge(1, 0, 1, 1, 0);
        due("a loop that gives less than it takes", plan(x), "ArithmeticException");

        TokenFlow parallel = actors(2);
        parallel.edge(0, 1, 9, 1, 0);
        parallel.edge(1, 0, 1, 8, 0);
        due("two edges that want different ratios", plan(parallel), "ArithmeticException");

        TokenFlow deep = chain(9, 1);
        due("more than 200, in ints too large", plan(deep), "UnsupportedOperationException");
        deep.edge(0, 7, 1, 1, 0);
        due("more than 200, and none", plan(deep), "ArithmeticException");
        due("the same chain the other way", plan(chain(1, 9)), "UnsupportedOperationException");

        TokenFlow stuck = actors(2);
        stuck.edge(0, 1, 1, 1, 0);
        stuck.edge(1, 0, 1, 1, 0);
        due("a ring without tokens", plan(stuck), "NoSuchElementException");
        due("planned()", stuck.planned(), 0);
        due("repetitions(0)", stuck.repetitions(0), 0);
        due("bound(0)", stuck.bound(0), -1);
        due("firing(0)", stuck.firing(0), -1);
        due("run(1)", run(stuck, 1), "IllegalStateException");

        TokenFlow late = actors(2);
        late.edge(0, 1, 1, 2, 0);
        late.edge(1, 0, 2, 1, 1);
        due("a ring that stops half way", plan(late), "NoSuchElementException");
        late.delay(1, 2);
        due("a ring that does not", plan(late), "3");

        TokenFlow loop = actors(1);
        loop.edge(0, 0, 9, 9, 8);
        due("a loop with too few", plan(loop), "NoSuchElementException");
        loop.delay(0, 9);
        due("a loop with enough", plan(loop), "1");

        TokenFlow many = actors(3);
        many.edge(0, 1, 9, 1, 0);
        many.edge(1, 2, 9, 1, 0);
        many.edge(2, 2, 1, 1, 0);
        due("91 firings, stuck", plan(many), "NoSuchElementException");
        many.actor(SUM, 0);
        many.edge(2, 3, 3, 2, 0);
        due("2 + 18 + 162 + 243 firings, stuck too", plan(many), "UnsupportedOperationException");
    }

    private static void promise9PlanAnswers() {
        TokenFlow just = actors(5);
        just.edge(0, 1, 9, 1, 0);
        just.edge(1, 2, 7, 1, 0);
        just.edge(1, 3, 7, 1, 0);
        just.edge(1, 4, 7, 1, 0);
        due("1 + 9 + 3 * 63 = 199 firings", plan(just), "199");
        just.actor(SUM, 0);
        just.edge(0, 5, 1, 1, 0);
        due("200 firings", plan(just), "200");
        due("firing(198)", just.firing(198), 4);
        due("firing(199)", just.firing(199), 5);
        due("firing(200)", just.firing(200), -1);
        due("run(20)", run(just, 20), "4000");
        just.actor(SUM, 0);
        just.edge(6, 0, 1, 1, 0);
        due("201 firings", plan(just), "UnsupportedOperationException");
        due("planned()", just.planned(), 0);

        TokenFlow least = actors(3);
        least.edge(0, 1, 6, 4, 0);
        least.edge(2, 1, 9, 3, 0);
        due("the least repetitions", plan(least), "6");
        due("repetitions(0)", least.repetitions(0), 2);
        due("repetitions(1)", least.repetitions(1), 3);
        due("repetitions(2)", least.repetitions(2), 1);

        TokenFlow x = ring(1);
        plan(x);
        run(x, 2);
        due("plan() once more", plan(x), "2");
        due("state(0)", x.state(0), 1);
        due("value(1)", x.value(1), 0);
        due("token(1, 0)", x.token(1, 0), 0);
        due("planned()", x.planned(), 2);
    }

    private static void promise10Planned() {
        promise = 10;
        TokenFlow x = ring(1);
        due("planned() before plan()", x.planned(), 0);
        plan(x);
        due("planned()", x.planned(), 2);
        run(x, 20);
        due("planned() behind run(20)", x.planned(), 2);
        x.delay(1, 0);
        due("planned() behind delay", x.planned(), 0);
        plan(x);
        due("planned() behind a plan() that threw", x.planned(), 0);
    }

    private static void promise11Firing() {
        promise = 11;
        TokenFlow x = actors(3);
        x.edge(2, 1, 2, 1, 0);
        x.edge(1, 0, 3, 2, 1);
        due("firing(0) before plan()", x.firing(0), -1);
        due("plan()", plan(x), "6");
        int[] firings = {2, 1, 0, 0, 1, 0};
        for (int i = 0; i < firings.length; i++) {
            due("firing(" + i + ")", x.firing(i), firings[i]);
        }
        due("firing(6)", x.firing(6), -1);
        for (int no : new int[] {-1, 200, Integer.MIN_VALUE, Integer.MAX_VALUE}) {
            due("firing(" + no + ")", x.firing(no), -1);
        }
        x.actor(SUM, 0);
        due("firing(0) behind a change", x.firing(0), -1);
    }

    private static void promise12Repetitions() {
        promise = 12;
        TokenFlow x = actors(4);
        x.edge(3, 2, 2, 3, 0);
        x.edge(1, 2, 4, 6, 0);
        x.edge(1, 0, 5, 1, 0);
        due("repetitions(0) before plan()", x.repetitions(0), 0);
        due("plan()", plan(x), "23");
        int[] repetitions = {15, 3, 2, 3};
        for (int n = 0; n < repetitions.length; n++) {
            due("repetitions(" + n + ")", x.repetitions(n), repetitions[n]);
        }
        due("repetitions(4)", x.repetitions(4), 0);
        for (int no : NO_NUMBERS) {
            due("repetitions(" + no + ")", x.repetitions(no), 0);
        }
        x.delay(0, 0);
        due("repetitions(0) behind a change", x.repetitions(0), 0);
    }

    private static void promise13Bound() {
        promise = 13;
        TokenFlow x = actors(2);
        x.edge(0, 1, 2, 3, 1);
        x.edge(1, 0, 3, 2, 6);
        x.edge(1, 1, 4, 4, 5);
        x.edge(0, 1, 1, 2, 9);
        due("bound(0) before plan()", x.bound(0), -1);
        due("plan() without repetitions", plan(x), "ArithmeticException");
        due("bound(0) behind it", x.bound(0), -1);

        TokenFlow y = actors(2);
        y.edge(0, 1, 2, 3, 1);
        y.edge(1, 0, 3, 2, 6);
        y.edge(1, 1, 4, 4, 5);
        y.edge(0, 1, 4, 6, 9);
        due("plan()", plan(y), "5");
        int[] bounds = {7, 6, 5, 21};
        for (int e = 0; e < bounds.length; e++) {
            due("bound(" + e + ")", y.bound(e), bounds[e]);
        }
        due("bound(4)", y.bound(4), -1);
        for (int no : NO_NUMBERS) {
            due("bound(" + no + ")", y.bound(no), -1);
        }
        y.actor(SUM, 0);
        due("bound(0) behind a change", y.bound(0), -1);

        TokenFlow later = actors(3);
        later.edge(0, 1, 9, 9, 9);
        later.edge(2, 0, 9, 1, 0);
        due("plan() that empties an edge first", plan(later), "19");
        due("bound(0)", later.bound(0), 81);
        due("bound(1)", later.bound(1), 9);

        TokenFlow wide = actors(5);
        wide.edge(0, 4, 9, 9, 9);
        wide.edge(0, 1, 1, 9, 0);
        wide.edge(1, 2, 1, 5, 0);
        wide.edge(2, 3, 1, 2, 0);
        due("plan() with a wide edge", plan(wide), "193");
        due("bound(0)", wide.bound(0), 9 + 90 * 9);
        due("run(20)", run(wide, 20), "3860");
        due("tokens(0)", wide.tokens(0), 9);
        wide.delay(0, 0);
        due("plan() with a narrower edge", plan(wide), "193");
        due("bound(0)", wide.bound(0), 90 * 9);
    }

    private static void promise14Run() {
        promise = 14;
        TokenFlow x = ring(1);
        due("run(1) without a plan", run(x, 1), "IllegalStateException");
        due("run(0) without a plan", run(x, 0), "IllegalStateException");
        plan(x);
        for (int no : new int[] {0, -1, 21, Integer.MIN_VALUE, Integer.MAX_VALUE}) {
            due("run(" + no + ")", run(x, no), "IllegalArgumentException");
        }
        due("value(0) behind refusals", x.value(0), 0);
        due("planned() behind refusals", x.planned(), 2);
        for (int n = 1; n <= 20; n++) {
            due("run(" + n + ")", run(x, n), Integer.toString(2 * n));
        }
        TokenFlow once = counterTo(SUM, 0);
        TokenFlow often = counterTo(SUM, 0);
        run(once, 20);
        for (int n = 0; n < 20; n++) {
            run(often, 1);
        }
        due("run(20) as run(1) 20 times", once.value(1), often.value(1));
        due("value(1)", once.value(1), 20 + 21 + 22);
    }

    private static void promise15Tokens() {
        promise = 15;
        TokenFlow x = ring(3);
        due("tokens(0)", x.tokens(0), 0);
        due("tokens(1)", x.tokens(1), 3);
        due("tokens(2)", x.tokens(2), -1);
        for (int no : NO_NUMBERS) {
            due("tokens(" + no + ")", x.tokens(no), -1);
        }
        plan(x);
        for (int n = 1; n <= 20; n++) {
            run(x, n);
            due("tokens(0) behind run(" + n + ")", x.tokens(0), 0);
            due("tokens(1) behind run(" + n + ")", x.tokens(1), 3);
        }
    }

    private static void promise16Token() {
        promise = 16;
        TokenFlow x = new TokenFlow();
        x.actor(COUNT, 5);
        x.actor(SUM, 0);
        x.edge(0, 1, 2, 2, 5);
        due("token(0, 4)", x.token(0, 4), 0);
        plan(x);
        int[][] rows = {{0, 0, 0, 5, 6}, {0, 5, 6, 6, 7}, {6, 6, 7, 7, 8}, {7, 7, 8, 8, 9}};
        for (int[] row : rows) {
            run(x, 1);
            for (int k = 0; k < row.length; k++) {
                due("token(0, " + k + ")", x.token(0, k), row[k]);
            }
        }
        run(x, 20);
        for (int no : new int[] {-1, 5, 6, 7, 8, 9, 1000, Integer.MIN_VALUE, Integer.MAX_VALUE}) {
            due("token(0, " + no + ")", x.token(0, no), 0);
        }
        due("token(1, 0)", x.token(1, 0), 0);
        for (int no : NO_NUMBERS) {
            due("token(" + no + ", 0)", x.token(no, 0), 0);
        }
    }

    private static void promise17Value() {
        promise = 17;
        TokenFlow x = counterTo(SUM, 100);
        due("value(0) before run", x.value(0), 0);
        due("value(1) before run", x.value(1), 0);
        run(x, 1);
        due("value(0)", x.value(0), 1);
        due("value(1)", x.value(1), 100 + 1 + 2 + 3);
        due("value(2)", x.value(2), 0);
        for (int no : NO_NUMBERS) {
            due("value(" + no + ")", x.value(no), 0);
        }
        run(x, 1);
        due("value(0) of the latest firing", x.value(0), 2);
        plan(x);
        due("value(0) behind plan()", x.value(0), 0);
    }

    private static void promise17ValueByKind() {
        due("COUNT takes no notice of tokens", valueOf(COUNT, 7, 2), 8);
        due("SUM", valueOf(SUM, 7, 2), 2 + 3 + 4 + 7);
        due("SCALE", valueOf(SCALE, -7, 2), -7 * (2 + 3 + 4));
        due("STORE", valueOf(STORE, 7, 2), 7 + (1 + 2 + 3) + (2 + 3 + 4));
        due("GREATEST", valueOf(GREATEST, 7, 2), 4);
        due("MIX", valueOf(MIX, 7, 2), (2 * 31 + 3) * 31 + 4 + 7);
        int[] alone = {9, 9, 0, 9, 9, 9};
        for (int kind = 0; kind < alone.length; kind++) {
            TokenFlow x = new TokenFlow();
            x.actor(kind, 9);
            plan(x);
            run(x, 1);
            due("kind " + kind + " that takes nothing", x.value(0), alone[kind]);
        }

        TokenFlow low = new TokenFlow();
        low.actor(COUNT, -50);
        low.actor(GREATEST, 5);
        low.edge(0, 1, 3, 3, 0);
        plan(low);
        run(low, 1);
        due("GREATEST of negative tokens", low.value(1), -48);
        run(low, 1);
        due("GREATEST of negative tokens once more", low.value(1), -47);

        TokenFlow falling = new TokenFlow();
        falling.actor(COUNT, 100);
        falling.actor(COUNT, 1);
        falling.actor(GREATEST, 1000);
        falling.edge(0, 2, 1, 1, 0);
        falling.edge(1, 2, 2, 2, 0);
        plan(falling);
        run(falling, 1);
        due("GREATEST of tokens that fall", falling.value(2), 100);

        // Edges are made in an order other than that of the actors they come from.
        TokenFlow mixed = new TokenFlow();
        mixed.actor(COUNT, 1);
        mixed.actor(COUNT, 10);
        mixed.actor(MIX, 0);
        mixed.edge(1, 2, 2, 2, 0);
        mixed.edge(0, 2, 1, 1, 0);
        mixed.edge(2, 2, 1, 1, 1);
        plan(mixed);
        run(mixed, 1);
        int first = ((10 * 31 + 11) * 31 + 1) * 31;
        due("MIX over edges by number", mixed.value(2), first);
        run(mixed, 1);
        due("MIX with its own token", mixed.value(2), ((11 * 31 + 12) * 31 + 2) * 31 + first);
        due("the loop's token", mixed.token(2, 0), mixed.value(2));
    }

    private static void promise17Wraps() {
        int most = Integer.MAX_VALUE;
        TokenFlow count = new TokenFlow();
        count.actor(COUNT, most);
        count.actor(SUM, most);
        count.edge(0, 1, 1, 1, 1);
        count.edge(0, 0, 2, 2, 2);
        plan(count);
        run(count, 1);
        due("a value plus 1 wraps", count.token(1, 1), Integer.MIN_VALUE);
        due("COUNT wraps", count.state(0), Integer.MIN_VALUE);
        run(count, 1);
        due("SUM wraps", count.value(1), -2);
        due("SCALE wraps", valueOf(SCALE, most, 1), most * 6);
        due("STORE wraps", valueOf(STORE, most, 1), Integer.MIN_VALUE + 5);
        due("MIX wraps", valueOf(MIX, most, 1), Integer.MIN_VALUE + (31 + 2) * 31 + 3 - 1);
    }

    private static void promise18State() {
        promise = 18;
        for (int kind = 0; kind < 6; kind++) {
            TokenFlow x = counterTo(kind, 7);
            due("state(1) of kind " + kind, x.state(1), 7);
            run(x, 2);
            int due = kind == COUNT ? 9 : kind == STORE ? 7 + 6 + 9 : 7;
            due("state(1) of kind " + kind + " behind run(2)", x.state(1), due);
            due("state(0)", x.state(0), 3);
            due("state(2)", x.state(2), 0);
            for (int no : NO_NUMBERS) {
                due("state(" + no + ")", x.state(no), 0);
            }
        }
    }

    private static void refusedCallsChangeNothing() {
        promise = 14;
        TokenFlow x = counterTo(SUM, 0);
        x.edge(0, 0, 1, 1, 1);
        plan(x);
        run(x, 2);
        x.actor(6, 0);
        x.edge(0, 9, 1, 1, 0);
        x.edge(0, 1, 1, 1, 10);
        x.delay(0, 10);
        x.delay(5, 1);
        run(x, 21);
        due("actors()", x.actors(), 2);
        due("edges()", x.edges(), 2);
        due("planned()", x.planned(), 2);
        due("value(1)", x.value(1), 2 + 3 + 4);
        due("state(0)", x.state(0), 3);
        due("token(1, 0)", x.token(1, 0), 2);

        TokenFlow full = actors(8);
        for (int e = 0; e < 12; e++) {
            full.edge(e % 7, e % 7 + 1, 1, 1, 0);
        }
        plan(full);
        run(full, 1);
        full.actor(0, 0);
        full.edge(0, 1, 1, 1, 0);
        due("planned() of a full network", full.planned(), 8);
        due("run(1) of a full network", run(full, 1), "8");
    }

    private static void changesBringToStart() {
        promise = 3;
        for (int change = 0; change < 3; change++) {
            TokenFlow x = counterTo(STORE, 7);
            run(x, 2);
            due("state(1)", x.state(1), 7 + 6 + 9);
            if (change == 0) {
                x.actor(SUM, 0);
            } else if (change == 1) {
                x.edge(0, 1, 1, 1, 0);
            } else {
                x.delay(0, 0);
            }
            due("planned() behind change " + change, x.planned(), 0);
            due("state(0) behind change " + change, x.state(0), 1);
            due("state(1) behind change " + change, x.state(1), 7);
            due("value(0) behind change " + change, x.value(0), 0);
            due("run(1) behind change " + change, run(x, 1), "IllegalStateException");
        }
    }

    /** A number of actors of kind SUM. */
    private static TokenFlow actors(int number) {
        TokenFlow x = new TokenFlow();
        for (int n = 0; n < number; n++) {
            x.actor(SUM, 0);
        }
        return x;
    }

    private static TokenFlow chain(int gives, int takes) {
        TokenFlow x = actors(8);
        for (int n = 0; n < 7; n++) {
            x.edge(n, n + 1, gives, takes, 0);
        }
        return x;
    }

    /** A STORE and a SCALE in a ring, with tokens waiting before the STORE. */
    private static TokenFlow ring(int waiting) {
        TokenFlow x = new TokenFlow();
        x.actor(STORE, 1);
        x.actor(SCALE, 2);
        x.edge(0, 1, 1, 1, 0);
        x.edge(1, 0, 1, 1, waiting);
        return x;
    }

    /** A COUNT from 1 that gives three tokens to an actor of a kind that takes three; planned. */
    private static TokenFlow counterTo(int kind, int a) {
        TokenFlow x = new TokenFlow();
        x.actor(COUNT, 1);
        x.actor(kind, a);
        x.edge(0, 1, 3, 3, 0);
        plan(x);
        return x;
    }

    private static int valueOf(int kind, int a, int rounds) {
        TokenFlow x = counterTo(kind, a);
        run(x, rounds);
        return x.value(1);
    }

    private static String plan(TokenFlow x) {
        try {
            return Integer.toString(x.plan());
        } catch (IllegalStateException | ArithmeticException | UnsupportedOperationException
                | NoSuchElementException e) {
            return e.getClass().getSimpleName();
        }
    }

    private static String run(TokenFlow x, int n) {
        try {
            return Integer.toString(x.run(n));
        } catch (IllegalStateException | IllegalArgumentException e) {
            return e.getClass().getSimpleName();
        }
    }

    private static void due(String call, Object got, Object want) {
        if (!got.equals(want)) {
            wrong++;
            System.out.println("promise " + promise + ": " + call + " answered " + got + ", due is " + want);
        }
    }
}
