import java.util.concurrent.Callable;

/** Everything of a world that can be asked without changing it, as one text. */
final class Look {
    private static final int FAR = 13;

    private Look() {
    }

    static String at(Bandworld x) {
        StringBuilder text = new StringBuilder();
        for (int level = 0; level < 10; level++) {
            text.append("L").append(x.getTemperature(level));
            for (int vapour = 0; vapour < 3; vapour++) {
                text.append(' ').append(x.getVapour(level, vapour)).append('/').append(x.getIce(level, vapour));
            }
        }
        for (int belt = 0; belt < 12; belt++) {
            text.append(" B").append(x.getTurning(belt));
        }
        text.append(" R").append(x.getRadiated()).append(" D").append(x.getDeep());
        for (int i = 0; i < FAR; i++) {
            int n = i;
            text.append("\n").append(n);
            add(text, () -> x.getLongitude(n));
            add(text, () -> x.getSize(n));
            add(text, () -> x.getAge(n));
            add(text, () -> x.livesIn(n));
            add(text, () -> x.getWidth(n));
            add(text, () -> x.scarTurns(n));
            add(text, () -> x.sent(n));
            add(text, () -> x.lost(n));
            add(text, () -> x.countSeen(n));
        }
        for (char name = 'A'; name <= 'Z'; name++) {
            char c = name;
            add(text, () -> x.findName(c));
            for (int frame = 0; frame < 6; frame++) {
                int n = frame;
                add(text, () -> x.placeIn(n, c));
            }
        }
        text.append("\nnotes ").append(x.happenings());
        for (int i = 0; i < x.happenings(); i++) {
            text.append(' ').append(x.happening(i)).append(x.happenedTo(i));
        }
        for (int probe = 0; probe < 4; probe++) {
            for (int i = 0; i < 20; i++) {
                int n = probe;
                int index = i;
                add(text, () -> x.sentAt(n, index, 'l') + "," + x.sentAt(n, index, 't') + "," + x.sentAt(n, index, 'i'));
            }
        }
        text.append("\nsum ").append(x.checksum());
        return text.toString();
    }

    private static void add(StringBuilder text, Callable<?> call) {
        String answer;
        try {
            answer = String.valueOf(call.call());
        } catch (Exception e) {
            answer = "-";
        }
        text.append(' ').append(answer);
    }
}
