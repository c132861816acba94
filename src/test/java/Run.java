import java.util.ArrayList;
import java.util.List;
import java.util.function.ToIntFunction;

/**
 * An object in use. It counts its calls, for the document promises nothing behind the 512th, and keeps them, so that
 * another object can be brought where this one is: what that one is asked uses up none of this one's calls.
 */
final class Run {
    static final int MOST_CALLS = 512;

    private final IcePilots it = new IcePilots();
    private final List<ToIntFunction<IcePilots>> calls = new ArrayList<>();
    private String told = null;

    private int number(ToIntFunction<IcePilots> call) {
        if (calls.size() == MOST_CALLS) {
            throw new IllegalStateException("a test uses an object for more than " + MOST_CALLS + " calls");
        }
        told = null;
        calls.add(call);
        return call.applyAsInt(it);
    }

    /** Another object, behind the same calls. */
    Run fork() {
        Run other = new Run();
        for (ToIntFunction<IcePilots> call : calls) {
            other.number(call);
        }
        return other;
    }

    int callsLeft() {
        return MOST_CALLS - calls.size();
    }

    /** All that this object tells and is going to tell, asked of forks of it. */
    String told() {
        if (told == null) {
            told = Told.of(this);
        }
        return told;
    }

    boolean gulf(int rows, int columns) {
        return number(x -> x.gulf(rows, columns) ? 1 : 0) == 1;
    }

    boolean land(int row, int column, boolean is) {
        return number(x -> x.land(row, column, is) ? 1 : 0) == 1;
    }

    boolean ice(int row, int column, int level, int ridged, boolean fast) {
        return number(x -> x.ice(row, column, level, ridged, fast) ? 1 : 0) == 1;
    }

    boolean weather(int from, int n, int cold, int way, int force) {
        return number(x -> x.weather(from, n, cold, way, force) ? 1 : 0) == 1;
    }

    int ship(int strength, int fuel, int row, int column) {
        return number(x -> x.ship(strength, fuel, row, column));
    }

    int feed(int a, int b, int c, int d, int e) {
        return number(x -> x.feed(a, b, c, d, e));
    }

    int end(int n) {
        return number(x -> x.end(n));
    }

    int orders(int ship) {
        return number(x -> x.orders(ship));
    }

    int fault(int what) {
        return number(x -> x.fault(what));
    }

    boolean call(int ship, int number) {
        return number(x -> x.call(ship, number) ? 1 : 0) == 1;
    }

    int hours(int n) {
        return number(x -> x.hours(n));
    }

    int ahead(int n, int ship, int what) {
        return number(x -> x.ahead(n, ship, what));
    }

    int cell(int row, int column, int what) {
        return number(x -> x.cell(row, column, what));
    }

    int tell(int ship, int what) {
        return number(x -> x.tell(ship, what));
    }

    int count(int what) {
        return number(x -> x.count(what));
    }

    int passage(int from, int hours, int worth) {
        return number(x -> x.passage(from, hours, worth));
    }

    void clear() {
        number(x -> {
            x.clear();
            return 0;
        });
    }

    int turns(int breakers) {
        return number(x -> x.turns(breakers));
    }

    int turn(int k) {
        return number(x -> x.turn(k));
    }

    int cost(int order, int breakers) {
        return number(x -> x.cost(order, breakers));
    }

    boolean image(int k) {
        return number(x -> x.image(k) ? 1 : 0) == 1;
    }

    boolean again(int k) {
        return number(x -> x.again(k) ? 1 : 0) == 1;
    }
}
