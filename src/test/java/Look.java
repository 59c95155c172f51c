import java.util.List;

/**
 * Everything of a world that can be asked, and how it goes on from there, as one text. A world is told as the run
 * of calls that makes it: each part is asked of an object of its own, since an object answers for 512 calls alone.
 */
final class Look {
    /** A run of calls on a new object. */
    interface Story {
        void tell(Bandworld x);
    }

    /** A call, or a few, and what they answer. */
    interface Ask {
        Object of(Bandworld x);
    }

    private static final List<Ask> PARTS = List.of(Look::column, Look::belts, Look::storms, Look::scars, Look::notes,
            Look::probes, Look::frames, Look::saves);

    private Look() {
    }

    static String at(Story story) {
        StringBuilder text = new StringBuilder();
        for (Ask part : PARTS) {
            Bandworld x = new Bandworld();
            story.tell(x);
            text.append(part.of(x)).append('\n');
        }
        return text.toString();
    }

    /** What a call answers: its value, or the name of the exception's class. */
    static String answer(Bandworld x, Ask call) {
        try {
            return String.valueOf(call.of(x));
        } catch (RuntimeException e) {
            return e.getClass().getSimpleName();
        }
    }

    private static void add(StringBuilder text, Bandworld x, Ask call) {
        text.append(' ').append(answer(x, call));
    }

    private static String column(Bandworld x) {
        StringBuilder text = new StringBuilder("column");
        for (int look = 0; look < 2; look++) {
            for (int i = 0; i < 10; i++) {
                int level = i;
                add(text, x, y -> y.getTemperature(level));
                for (int v = 0; v < 3; v++) {
                    int vapour = v;
                    add(text, x, y -> y.getVapour(level, vapour) + "/" + y.getIce(level, vapour));
                }
            }
            add(text, x, y -> y.getRadiated());
            add(text, x, y -> y.deck(0));
            add(text, x, y -> y.deck(1));
            add(text, x, y -> y.deck(2));
            add(text, x, y -> y.setCore(3));
            add(text, x, y -> y.isSound());
            add(text, x, y -> y.turn(1));
        }
        return text.toString();
    }

    private static String belts(Bandworld x) {
        StringBuilder text = new StringBuilder("belts");
        for (int look = 0; look < 2; look++) {
            for (int i = 0; i < 12; i++) {
                int belt = i;
                add(text, x, y -> y.getTurning(belt) + "/" + y.getWind(belt) + "/" + y.getShear(belt));
            }
            add(text, x, y -> y.getDeep());
            add(text, x, y -> y.meanWind());
            add(text, x, y -> y.checksum());
            add(text, x, y -> y.isSound());
            add(text, x, y -> y.turn(1));
            add(text, x, y -> y.setDrag(4));
        }
        return text.toString();
    }

    private static String storms(Bandworld x) {
        StringBuilder text = new StringBuilder("storms");
        for (int look = 0; look < 3; look++) {
            for (int i = 0; i < 13; i++) {
                int storm = i;
                add(text, x, y -> y.isThere(storm));
                add(text, x, y -> y.getLongitude(storm));
                add(text, x, y -> y.getSize(storm));
                add(text, x, y -> y.getAge(storm));
                add(text, x, y -> y.livesIn(storm));
            }
            for (char c = 'A'; c <= 'Z'; c++) {
                char name = c;
                add(text, x, y -> y.findName(name));
            }
            add(text, x, y -> y.thereShare());
            add(text, x, y -> y.checksum());
            add(text, x, y -> y.isSound());
            int turns = 1 + 8 * look;
            add(text, x, y -> y.turn(turns));
        }
        add(text, x, y -> y.addStorm(6, 5, 20));
        return text.toString();
    }

    private static String scars(Bandworld x) {
        StringBuilder text = new StringBuilder("scars");
        for (int look = 0; look < 3; look++) {
            for (int i = 0; i < 9; i++) {
                int scar = i;
                add(text, x, y -> y.getWidth(scar));
                add(text, x, y -> y.scarTurns(scar));
            }
            add(text, x, y -> y.turn(3));
        }
        add(text, x, y -> y.strike(6, 5, 20));
        return text.toString();
    }

    private static String notes(Bandworld x) {
        StringBuilder text = new StringBuilder("notes");
        for (int look = 0; look < 2; look++) {
            add(text, x, y -> y.happenings());
            for (int i = 0; i < 33; i++) {
                int index = i;
                add(text, x, y -> y.happening(index));
                add(text, x, y -> y.happenedTo(index));
            }
            add(text, x, y -> y.turn(5));
        }
        return text.toString();
    }

    private static String probes(Bandworld x) {
        StringBuilder text = new StringBuilder("probes");
        for (int i = 0; i < 5; i++) {
            int probe = i;
            add(text, x, y -> y.sent(probe));
            add(text, x, y -> y.lost(probe));
            String level = "";
            for (int tick = 0; tick < 20 && !level.endsWith("Exception"); tick++) {
                level = answer(x, y -> y.tick(probe));
                text.append(' ').append(level);
            }
            add(text, x, y -> y.lost(probe));
            String record = "";
            for (int j = 0; j < 20 && !record.endsWith("Exception"); j++) {
                int index = j;
                record = answer(x, y -> y.sentAt(probe, index, 'l') + "," + y.sentAt(probe, index, 't') + ","
                        + y.sentAt(probe, index, 'i'));
                text.append(' ').append(record);
            }
        }
        add(text, x, y -> y.dropProbe(3, 4, 2, true));
        return text.toString();
    }

    private static String frames(Bandworld x) {
        StringBuilder text = new StringBuilder("frames");
        add(text, x, y -> y.turn(1));
        add(text, x, y -> y.frame(0));
        for (int i = 0; i < 7; i++) {
            int frame = i;
            String count = answer(x, y -> y.countSeen(frame));
            text.append(' ').append(count);
            for (char c = 'A'; c <= 'Z' && !count.endsWith("Exception"); c++) {
                char name = c;
                add(text, x, y -> y.placeIn(frame, name));
            }
            for (int j = 0; j < 6 && !count.endsWith("Exception"); j++) {
                int other = j;
                add(text, x, y -> y.drift('A', frame, other));
                add(text, x, y -> y.drift('B', frame, other));
            }
        }
        return text.toString();
    }

    private static String saves(Bandworld x) {
        StringBuilder text = new StringBuilder("saves");
        add(text, x, y -> y.checksum());
        add(text, x, y -> y.isSound());
        add(text, x, y -> y.save());
        for (int i = 0; i < 4; i++) {
            int save = i;
            add(text, x, y -> y.load(save));
            add(text, x, y -> y.isSound());
            add(text, x, y -> y.happenings());
            add(text, x, y -> y.setCore(4));
            add(text, x, y -> y.setDrag(30));
            add(text, x, y -> y.turn(3));
            add(text, x, y -> y.checksum());
            add(text, x, y -> y.getWidth(0));
            add(text, x, y -> y.findName('A'));
        }
        return text.toString();
    }
}
