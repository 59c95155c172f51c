import java.util.ArrayDeque;
import java.util.ArrayList;
import java.util.Arrays;
import java.util.List;
import java.util.NoSuchElementException;

/**
 * The document read a second time, with objects and lists in place of rows, and with other arithmetic where
 * there is some. It is there to be compared with the class by long runs of calls.
 */
final class PlainGiant {
    private static final int[] WIDTH = {2, 4, 6, 8, 9, 10, 10, 9, 8, 6, 4, 2};

    private static final class Level {
        long warmth;
        final long[] vapour = new long[3];
        final long[] ice = new long[3];

        long together() {
            return Arrays.stream(vapour).sum() + Arrays.stream(ice).sum();
        }
    }

    private static final class Storm {
        int number;
        int belt;
        long longitude;
        int size;
        int age;
        Character name;
        boolean there = true;
        Storm into;
    }

    private static final class Scar {
        int belt;
        long first;
        long width;
    }

    private static final class Note {
        final char letter;
        final int number;

        Note(char letter, int number) {
            this.letter = letter;
            this.number = number;
        }
    }

    private static final class State {
        final List<Level> levels = new ArrayList<>();
        long core = 2;
        long radiated;
        final long[] turning = new long[12];
        long drag;
        long deep;
        final List<Storm> storms = new ArrayList<>();
        final List<Scar> scars = new ArrayList<>();
        final List<Note> notes = new ArrayList<>();
        int turns;

        State copy() {
            State other = new State();
            for (Level level : levels) {
                Level twin = new Level();
                twin.warmth = level.warmth;
                for (int v = 0; v < 3; v++) {
                    twin.vapour[v] = level.vapour[v];
                    twin.ice[v] = level.ice[v];
                }
                other.levels.add(twin);
            }
            other.core = core;
            other.radiated = radiated;
            for (int b = 0; b < 12; b++) {
                other.turning[b] = turning[b];
            }
            other.drag = drag;
            other.deep = deep;
            for (Storm storm : storms) {
                Storm twin = new Storm();
                twin.number = storm.number;
                twin.belt = storm.belt;
                twin.longitude = storm.longitude;
                twin.size = storm.size;
                twin.age = storm.age;
                twin.name = storm.name;
                twin.there = storm.there;
                other.storms.add(twin);
            }
            for (Storm storm : storms) {
                if (storm.into != null) {
                    other.storms.get(storm.number).into = other.storms.get(storm.into.number);
                }
            }
            for (Scar scar : scars) {
                Scar twin = new Scar();
                twin.belt = scar.belt;
                twin.first = scar.first;
                twin.width = scar.width;
                other.scars.add(twin);
            }
            other.notes.addAll(notes);
            other.turns = turns;
            return other;
        }
    }

    private static final class Falling {
        int chute;
        int relay;
        int records;
        boolean oldest;
        int level;
        int ticks;
        boolean dead;
        final ArrayDeque<int[]> kept = new ArrayDeque<>();
        final List<int[]> sent = new ArrayList<>();
        int lost;
    }

    private static final class Picture {
        int turn;
        int count;
        final Integer[] place = new Integer[128];
    }

    private State now = new State();
    private final List<State> saves = new ArrayList<>();
    private final List<Falling> probes = new ArrayList<>();
    private final List<Picture> frames = new ArrayList<>();

    PlainGiant() {
        for (int l = 0; l < 10; l++) {
            Level level = new Level();
            level.warmth = 100 + 20 * l;
            now.levels.add(level);
        }
    }

    private static void inside(int index, int count) {
        if (index < 0 || index >= count) {
            throw new IndexOutOfBoundsException();
        }
    }

    private static void told(int number, int least, int most) {
        if (number < least || number > most) {
            throw new IllegalArgumentException();
        }
    }

    private static void named(char name) {
        if ("ABCDEFGHIJKLMNOPQRSTUVWXYZ".indexOf(name) < 0) {
            throw new IllegalArgumentException();
        }
    }

    private static void room(int count, int most) {
        if (count == most) {
            throw new IllegalStateException();
        }
    }

    public int setTemperature(int level, int temperature) {
        inside(level, 10);
        told(temperature, 50, 999);
        int before = getTemperature(level);
        now.levels.get(level).warmth = temperature;
        return before;
    }

    public int getTemperature(int level) {
        inside(level, 10);
        return (int) now.levels.get(level).warmth;
    }

    public int setVapour(int level, int vapour, int amount) {
        inside(level, 10);
        inside(vapour, 3);
        told(amount, 0, 20000);
        int before = getVapour(level, vapour);
        now.levels.get(level).vapour[vapour] = amount;
        return before;
    }

    public int getVapour(int level, int vapour) {
        inside(level, 10);
        inside(vapour, 3);
        return (int) now.levels.get(level).vapour[vapour];
    }

    public int getIce(int level, int vapour) {
        inside(level, 10);
        inside(vapour, 3);
        return (int) now.levels.get(level).ice[vapour];
    }

    public int deck(int vapour) {
        inside(vapour, 3);
        long most = now.levels.stream().mapToLong(level -> level.ice[vapour]).max().getAsLong();
        if (most == 0) {
            throw new NoSuchElementException();
        }
        int level = 0;
        while (now.levels.get(level).ice[vapour] != most) {
            level++;
        }
        return level;
    }

    public int setCore(int heat) {
        told(heat, 0, 9);
        int before = (int) now.core;
        now.core = heat;
        return before;
    }

    public int getRadiated() {
        return (int) now.radiated;
    }

    public float pressure(int level) {
        inside(level, 10);
        return level == 0 ? 0.1f : 2.0f * pressure(level - 1);
    }

    public int setTurning(int belt, int turning) {
        inside(belt, 12);
        told(turning, -3000, 3000);
        int before = (int) now.turning[belt];
        now.turning[belt] = turning;
        return before;
    }

    public int getTurning(int belt) {
        inside(belt, 12);
        return (int) now.turning[belt];
    }

    public int getWind(int belt) {
        inside(belt, 12);
        return (int) (now.turning[belt] / WIDTH[belt]);
    }

    public int getShear(int belt) {
        inside(belt, 12);
        int north = getWind(belt == 0 ? 0 : belt - 1);
        int south = getWind(belt == 11 ? 11 : belt + 1);
        return north > south ? north - south : south - north;
    }

    public int stir(int from, int to, int turning) {
        inside(from, 12);
        inside(to, 12);
        if (from != to + 1 && to != from + 1) {
            throw new IllegalArgumentException();
        }
        told(turning, 1, 3000);
        now.turning[from] -= turning;
        now.turning[to] += turning;
        return (int) now.turning[to];
    }

    public int setDrag(int drag) {
        told(drag, 0, 50);
        int before = (int) now.drag;
        now.drag = drag;
        return before;
    }

    public int getDeep() {
        return (int) now.deep;
    }

    private Storm newStorm(int belt, long longitude, int size) {
        Storm storm = new Storm();
        storm.number = now.storms.size();
        storm.belt = belt;
        storm.longitude = longitude;
        storm.size = size;
        now.storms.add(storm);
        return storm;
    }

    public int addStorm(int belt, int longitude, int size) {
        inside(belt, 12);
        told(longitude, 0, 3599);
        told(size, 10, 400);
        room(now.storms.size(), 12);
        return newStorm(belt, longitude, size).number;
    }

    private Storm storm(int number) {
        inside(number, now.storms.size());
        return now.storms.get(number);
    }

    public char nameStorm(int number, char name) {
        Storm storm = storm(number);
        named(name);
        if (!storm.there) {
            throw new UnsupportedOperationException();
        }
        for (Storm other : now.storms) {
            if (other != storm && other.there && other.name != null && other.name == name) {
                throw new UnsupportedOperationException();
            }
        }
        char before = storm.name == null ? '-' : storm.name;
        storm.name = name;
        return before;
    }

    public int findName(char name) {
        named(name);
        return now.storms.stream().filter(s -> s.there && s.name != null && s.name == name)
                .findFirst().orElseThrow(NoSuchElementException::new).number;
    }

    private Storm present(int number) {
        Storm storm = storm(number);
        if (!storm.there) {
            throw new NoSuchElementException();
        }
        return storm;
    }

    public int getLongitude(int storm) {
        return (int) present(storm).longitude;
    }

    public int getSize(int storm) {
        return present(storm).size;
    }

    public int getAge(int storm) {
        return storm(storm).age;
    }

    public boolean isThere(int storm) {
        return storm(storm).there;
    }

    public int livesIn(int storm) {
        Storm last = storm(storm);
        while (last.into != null) {
            last = last.into;
        }
        return present(last.number).number;
    }

    public int burst(int belt, int longitude) {
        inside(belt, 12);
        told(longitude, 0, 3599);
        Level bottom = now.levels.get(9);
        if (bottom.warmth < now.levels.get(0).warmth + 200) {
            throw new UnsupportedOperationException();
        }
        room(now.storms.size(), 12);
        for (int v = 0; v < 3; v++) {
            long stays = bottom.vapour[v] - bottom.vapour[v] / 2;
            now.levels.get(3).vapour[v] += bottom.vapour[v] - stays;
            bottom.vapour[v] = stays;
        }
        int number = newStorm(belt, longitude, 60).number;
        now.notes.add(new Note('p', number));
        return number;
    }

    public int strike(int belt, int longitude, int width) {
        inside(belt, 12);
        told(longitude, 0, 3599);
        told(width, 1, 100);
        room(now.scars.size(), 8);
        Scar scar = new Scar();
        scar.belt = belt;
        scar.first = width;
        scar.width = width;
        now.scars.add(scar);
        now.notes.add(new Note('k', now.scars.size() - 1));
        return now.scars.size() - 1;
    }

    public int getWidth(int scar) {
        inside(scar, now.scars.size());
        return (int) now.scars.get(scar).width;
    }

    public int scarTurns(int scar) {
        inside(scar, now.scars.size());
        Scar old = now.scars.get(scar);
        return (int) ((old.width - old.first) / (getShear(old.belt) / 20 + 1));
    }

    public int turn(int turns) {
        told(turns, 1, 200);
        for (int i = turns; i > 0; i--) {
            turnColumn();
            if (now.drag > 0) {
                for (int b = 0; b < 12; b++) {
                    long loss = now.turning[b] / now.drag;
                    now.turning[b] -= loss;
                    now.deep += loss;
                }
            }
            turnStorms();
            for (Scar scar : now.scars) {
                scar.width += 1 + getShear(scar.belt) / 20;
            }
            now.turns++;
        }
        return now.turns;
    }

    private void turnColumn() {
        now.levels.get(9).warmth += now.core;
        for (Level level : now.levels) {
            for (int v = 0; v < 3; v++) {
                long holds = Math.max(0, new long[] {40, 60, 90}[v] * (level.warmth - 120 - 60 * v));
                long all = level.vapour[v] + level.ice[v];
                // More than it holds freezes; else it thaws as much as it can: both leave the lesser of the two.
                level.vapour[v] = Math.min(all, holds);
                level.ice[v] = all - level.vapour[v];
            }
        }
        for (int l = 8; l >= 0; l--) {
            for (int v = 0; v < 3; v++) {
                long stays = now.levels.get(l).ice[v] / 2;
                now.levels.get(l + 1).ice[v] += now.levels.get(l).ice[v] - stays;
                now.levels.get(l).ice[v] = stays;
            }
        }
        for (int l = 8; l >= 0; l--) {
            Level above = now.levels.get(l);
            Level below = now.levels.get(l + 1);
            long more = below.warmth - above.warmth - 25;
            long heavier = below.together() / 1000 - above.together() / 1000;
            if (more > 0 && more > heavier) {
                long up = more / 2 + more % 2;
                below.warmth -= up;
                above.warmth += up;
                for (int v = 0; v < 3; v++) {
                    long tenth = below.vapour[v] / 10;
                    below.vapour[v] -= tenth;
                    above.vapour[v] += tenth;
                }
            }
        }
        long loss = now.levels.get(0).warmth / 100;
        now.levels.get(0).warmth -= loss;
        now.radiated += loss;
    }

    private static long round(long longitude) {
        return (longitude % 3600 + 3600) % 3600;
    }

    private static long apart(long one, long two) {
        return Math.min(round(one - two), round(two - one));
    }

    private void turnStorms() {
        for (Storm storm : now.storms) {
            if (storm.there) {
                storm.longitude = round(storm.longitude + getWind(storm.belt));
                storm.age++;
            }
        }
        for (Storm a : now.storms) {
            for (Storm b : now.storms) {
                boolean isPair = a.number < b.number && a.there && b.there && a.belt == b.belt;
                if (isPair && apart(a.longitude, b.longitude) < (a.size + b.size) / 2) {
                    meet(a, b);
                }
            }
        }
        for (Storm storm : now.storms) {
            if (storm.there && getShear(storm.belt) > 100) {
                storm.size -= storm.size < 20 ? 1 : storm.size / 10;
                if (storm.size < 10) {
                    storm.there = false;
                    now.notes.add(new Note('d', storm.number));
                }
            }
        }
        for (Storm storm : new ArrayList<>(now.storms)) {
            if (storm.there && storm.size > 300 && now.storms.size() < 12) {
                Storm part = newStorm(storm.belt, round(storm.longitude + storm.size), storm.size / 3);
                storm.size -= part.size;
                now.notes.add(new Note('s', part.number));
            }
        }
    }

    private void meet(Storm a, Storm b) {
        boolean isFirst = a.size > b.size || (a.size == b.size && a.age >= b.age);
        Storm lives = isFirst ? a : b;
        Storm goes = isFirst ? b : a;
        lives.size = Math.min(400, (int) Math.sqrt(a.size * a.size + b.size * b.size));
        if (lives.name == null) {
            lives.name = goes.name;
        }
        goes.there = false;
        goes.into = lives;
        now.notes.add(new Note('m', lives.number));
    }

    public int dropProbe(int chute, int relay, int records, boolean isOldest) {
        told(chute, 1, 9);
        told(relay, 1, 60);
        told(records, 1, 3);
        room(probes.size(), 4);
        Falling probe = new Falling();
        probe.chute = chute;
        probe.relay = relay;
        probe.records = records;
        probe.oldest = isOldest;
        probes.add(probe);
        return probes.size() - 1;
    }

    public int tick(int number) {
        inside(number, probes.size());
        Falling probe = probes.get(number);
        if (probe.dead) {
            throw new UnsupportedOperationException();
        }
        Level level = now.levels.get(probe.level);
        probe.ticks++;
        probe.kept.addLast(new int[] {probe.level, (int) level.warmth, (int) Arrays.stream(level.ice).sum()});
        if (probe.kept.size() == 7) {
            probe.kept.removeFirst();
            probe.lost++;
        }
        for (int i = 0; i < probe.records && probe.ticks <= probe.relay && !probe.kept.isEmpty(); i++) {
            probe.sent.add(probe.oldest ? probe.kept.removeFirst() : probe.kept.removeLast());
        }
        if (probe.level == 9 || level.warmth > 600) {
            probe.dead = true;
            return -1;
        }
        if (probe.level >= probe.chute || probe.ticks % 2 == 0) {
            probe.level++;
        }
        return probe.level;
    }

    public int sent(int probe) {
        inside(probe, probes.size());
        return probes.get(probe).sent.size();
    }

    public int sentAt(int probe, int index, char what) {
        inside(probe, probes.size());
        int place = "lti".indexOf(what);
        if (place < 0) {
            throw new IllegalArgumentException();
        }
        if (index < 0 || index >= sent(probe)) {
            throw new NoSuchElementException();
        }
        return probes.get(probe).sent.get(index)[place];
    }

    public int lost(int probe) {
        inside(probe, probes.size());
        return probes.get(probe).lost;
    }

    public int frame(int longitude) {
        told(longitude, 0, 3599);
        room(frames.size(), 6);
        Picture picture = new Picture();
        picture.turn = now.turns;
        for (Storm storm : now.storms) {
            if (storm.there && apart(storm.longitude, longitude) <= 900) {
                picture.count++;
                if (storm.name != null) {
                    picture.place[storm.name] = (int) storm.longitude;
                }
            }
        }
        frames.add(picture);
        return frames.size() - 1;
    }

    public int countSeen(int frame) {
        inside(frame, frames.size());
        return frames.get(frame).count;
    }

    public int placeIn(int frame, char name) {
        inside(frame, frames.size());
        named(name);
        Integer place = frames.get(frame).place[name];
        if (place == null) {
            throw new NoSuchElementException();
        }
        return place;
    }

    public float drift(char name, int frame, int other) {
        inside(frame, frames.size());
        inside(other, frames.size());
        named(name);
        int turns = frames.get(other).turn - frames.get(frame).turn;
        if (turns < 0) {
            return drift(name, other, frame);
        }
        int way = placeIn(other, name) - placeIn(frame, name);
        if (turns == 0) {
            throw new NoSuchElementException();
        }
        while (way < -1800) {
            way += 3600;
        }
        while (way > 1799) {
            way -= 3600;
        }
        return (float) way / turns;
    }

    public int save() {
        room(saves.size(), 3);
        saves.add(now.copy());
        return saves.size() - 1;
    }

    public long load(int save) {
        inside(save, saves.size());
        now = saves.get(save).copy();
        return checksum();
    }

    public int happenings() {
        return now.notes.size();
    }

    private Note note(int index) {
        if (index < 0 || index >= happenings()) {
            throw new NoSuchElementException();
        }
        return now.notes.get(index);
    }

    public char happening(int index) {
        return note(index).letter;
    }

    public int happenedTo(int index) {
        return note(index).number;
    }

    public long checksum() {
        List<Long> parts = new ArrayList<>();
        for (Level level : now.levels) {
            parts.add(level.warmth);
            parts.add(level.together());
        }
        for (long turning : now.turning) {
            parts.add(turning);
        }
        for (Storm storm : now.storms) {
            parts.add(storm.there ? (long) storm.size : 0L);
            parts.add(storm.longitude);
        }
        parts.add((long) now.turns);
        return parts.stream().reduce(7L, (sum, part) -> 31L * sum + part);
    }

    public float thereShare() {
        if (now.storms.isEmpty()) {
            throw new ArithmeticException();
        }
        return (float) now.storms.stream().filter(s -> s.there).count() / now.storms.size();
    }

    public double meanWind() {
        double sum = 0;
        for (int belt = 0; belt < 12; belt++) {
            sum += getWind(belt);
        }
        return sum / 12;
    }

    public boolean isSound() {
        return true;
    }
}
