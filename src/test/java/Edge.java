import java.util.NoSuchElementException;

/** What the tests of edges share: worlds to ask, numbers just beyond a range, and calls that are refused. */
final class Edge {
    static final Class<?> INDEX = IndexOutOfBoundsException.class;
    static final Class<?> ARGUMENT = IllegalArgumentException.class;
    static final Class<?> STATE = IllegalStateException.class;
    static final Class<?> UNSUPPORTED = UnsupportedOperationException.class;
    static final Class<?> NONE = NoSuchElementException.class;
    static final Class<?> DIVISION = ArithmeticException.class;

    /** Signs that are no names: next to 'A' and 'Z', and what looks like a name if bits are cut off. */
    static final char[] NO_NAMES = {
        '@', '[', 'a', 'z', '-', (char) 0, (char) ('A' + 256), (char) ('Z' + 32768), '\uffff',
    };

    private Edge() {
    }

    /** The next number beyond each end of a range, and the least and the greatest number of all. */
    static int[] beyond(int least, int most) {
        return new int[] {least - 1, most + 1, Integer.MIN_VALUE, Integer.MAX_VALUE};
    }

    /** The call throws exactly this class, and the world is and goes on as if it had not been made. */
    static void refused(String what, Class<?> want, Look.Story before, Look.Ask call) {
        Bandworld x = new Bandworld();
        before.tell(x);
        Check.due(what, Look.answer(x, call), want.getSimpleName());
        String with = Look.at(y -> {
            before.tell(y);
            Look.answer(y, call);
        });
        Check.due(what + " changes nothing, so what is behind it", with, Look.at(before));
    }

    /** It is refused in a new world and in a busy one alike. */
    static void refused(String what, Class<?> want, Look.Ask call) {
        refused(what + " in a new world", want, Edge::empty, call);
        refused(what + " in a busy world", want, Edge::busy, call);
    }

    static void empty(Bandworld x) {
    }

    /** Five storms of two bands and more, scars, probes on their way, frames, saves, ice, winds and a drag. */
    static void busy(Bandworld x) {
        x.setTemperature(9, 500);
        x.setVapour(9, 2, 20000);
        x.setVapour(4, 0, 9999);
        x.setVapour(0, 1, 777);
        x.setCore(7);
        x.setDrag(9);
        x.setTurning(2, 60);
        x.setTurning(4, 1000);
        x.setTurning(5, -700);
        x.setTurning(9, 300);
        x.addStorm(5, 10, 280);
        x.addStorm(5, 3590, 250);
        x.addStorm(2, 3000, 50);
        x.addStorm(8, 300, 350);
        x.addStorm(3, 800, 11);
        x.nameStorm(0, 'A');
        x.nameStorm(2, 'B');
        x.nameStorm(3, 'Z');
        x.strike(5, 1, 20);
        x.dropProbe(9, 2, 1, true);
        x.dropProbe(1, 60, 3, false);
        for (int tick = 0; tick < 9; tick++) {
            x.tick(0);
        }
        x.tick(1);
        x.frame(0);
        x.save();
        x.burst(9, 77);
        x.turn(2);
        x.strike(7, 2, 50);
        x.frame(3500);
        x.save();
        x.turn(1);
    }

    /** A world in which nothing more has room: 12 storms, 8 scars, 4 probes, 6 frames and 3 saves. */
    static void full(Bandworld x) {
        x.setTemperature(9, 400);
        x.setVapour(9, 1, 5000);
        x.setTurning(5, 100);
        x.setTurning(6, 900);
        for (int storm = 0; storm < 12; storm++) {
            x.addStorm(storm, 300 * storm, 10 + storm);
        }
        x.nameStorm(0, 'A');
        x.nameStorm(11, 'B');
        for (int scar = 0; scar < 8; scar++) {
            x.strike(scar, 0, 1 + scar);
        }
        for (int probe = 0; probe < 4; probe++) {
            x.dropProbe(1 + probe, 2, 1, true);
        }
        for (int frame = 0; frame < 6; frame++) {
            x.turn(1);
            x.frame(600 * frame);
        }
        for (int save = 0; save < 3; save++) {
            x.turn(1);
            x.save();
        }
    }
}
