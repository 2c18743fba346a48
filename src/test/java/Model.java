import java.util.ArrayList;
import java.util.Arrays;
import java.util.LinkedHashSet;
import java.util.List;
import java.util.Set;
import java.util.TreeMap;

/**
 * The document again, told plainly and without care for speed: nothing is counted as it goes, every question is
 * answered from the blobs that are there. ModelTest holds it against the class.
 */
final class Model {
    private static final class Part {
        final int made;
        final int[] bytes;

        Part(int made, int[] bytes) {
            this.made = made;
            this.bytes = bytes;
        }
    }

    private static final class Blob {
        List<Part> parts = new ArrayList<>();
        int sum;
        long digest;
        int[] copy;

        int[] bytes() {
            return Check.join(parts.stream().map(p -> p.bytes).toArray(int[][]::new));
        }

        boolean sound() {
            return Check.sum(bytes()) == sum;
        }
    }

    private final int room;
    private final List<List<Integer>> putBytes = new ArrayList<>();
    private final List<Integer> putLengths = new ArrayList<>();
    private final List<Long> putXors = new ArrayList<>();
    private final Set<Integer> open = new LinkedHashSet<>();
    private final TreeMap<Integer, Blob> blobs = new TreeMap<>();
    private final TreeMap<Integer, Integer> actions = new TreeMap<>();
    private final List<List<Integer>> packs = new ArrayList<>();
    private int blobsMade = 0;
    private int partsMade = 0;

    Model(int room) {
        this.room = room < 0 ? 0 : room > 2000 ? 2000 : room;
    }

    int begin(int length, long xor) {
        if (putLengths.size() == 60 || open.size() == 4 || length < 0 || length > 96) {
            return -1;
        }
        open.add(putLengths.size());
        putBytes.add(new ArrayList<>());
        putLengths.add(length);
        putXors.add(xor);
        return putLengths.size() - 1;
    }

    int add(int put, long w, int n) {
        if (!open.contains(put) || n < 1 || n > 8 || putBytes.get(put).size() + n > putLengths.get(put)) {
            return -1;
        }
        String hex = String.format("%016x", w).substring(16 - 2 * n);
        for (int i = 0; i < n; i++) {
            putBytes.get(put).add(Integer.parseInt(hex.substring(2 * i, 2 * i + 2), 16));
        }
        return putBytes.get(put).size();
    }

    int end(int put) {
        if (!open.remove(put)) {
            return -1;
        }
        int[] bytes = putBytes.get(put).stream().mapToInt(Integer::intValue).toArray();
        long told = Check.digest(bytes) ^ putXors.get(put);
        if (bytes.length != putLengths.get(put) || told != Check.digest(bytes)) {
            return -2;
        }
        for (int number : blobs.keySet()) {
            if (blobs.get(number).sound() && Arrays.equals(blobs.get(number).bytes(), bytes)) {
                return number;
            }
        }
        List<Part> parts = partsFor(bytes, List.of());
        if (parts == null || blobsMade == 60) {
            return -3;
        }
        Blob blob = new Blob();
        blob.parts = parts;
        blob.sum = Check.sum(bytes);
        blob.digest = Check.digest(bytes);
        blobs.put(blobsMade, blob);
        return blobsMade++;
    }

    /** The parts for a row, or null if those that would be made have no room beside all that there are. */
    private List<Part> partsFor(int[] bytes, List<Part> had) {
        List<Part> all = kept();
        int number = partsMade;
        List<Part> chosen = new ArrayList<>();
        for (int at = 0; at < bytes.length; at += 16) {
            int[] wanted = Arrays.copyOfRange(bytes, at, Math.min(bytes.length, at + 16));
            Part part = at / 16 < had.size() && Arrays.equals(had.get(at / 16).bytes, wanted) ? had.get(at / 16) : null;
            for (int i = 0; part == null && i < all.size(); i++) {
                part = Arrays.equals(all.get(i).bytes, wanted) ? all.get(i) : null;
            }
            if (part == null) {
                part = new Part(number++, wanted);
                all.add(part);
            }
            chosen.add(part);
        }
        if (all.stream().mapToInt(p -> p.bytes.length).sum() > room) {
            return null;
        }
        partsMade = number;
        return chosen;
    }

    private List<Part> kept() {
        TreeMap<Integer, Part> all = new TreeMap<>();
        blobs.values().forEach(b -> b.parts.forEach(p -> all.put(p.made, p)));
        return new ArrayList<>(all.values());
    }

    boolean there(int blob) {
        return blobs.containsKey(blob);
    }

    long digest(int blob) {
        return there(blob) ? blobs.get(blob).digest : 0;
    }

    int size(int blob) {
        return there(blob) ? blobs.get(blob).bytes().length : -1;
    }

    int get(int blob, int i) {
        return i < 0 || i >= size(blob) ? -1 : sound(blob) ? blobs.get(blob).bytes()[i] : -2;
    }

    boolean poison(int blob, int i, int mask) {
        if (i < 0 || i >= size(blob) || (mask & 255) == 0) {
            return false;
        }
        blobs.get(blob).parts.get(i / 16).bytes[i % 16] ^= mask & 255;
        return true;
    }

    boolean sound(int blob) {
        return there(blob) && blobs.get(blob).sound();
    }

    boolean mirror(int blob) {
        if (there(blob)) {
            blobs.get(blob).copy = blobs.get(blob).bytes();
        }
        return there(blob);
    }

    int repair(int blob) {
        if (!there(blob)) {
            return -1;
        }
        Blob asked = blobs.get(blob);
        if (asked.sound()) {
            return 0;
        }
        if (asked.copy == null || Check.sum(asked.copy) != asked.sum) {
            return -2;
        }
        List<Part> parts = partsFor(asked.copy, asked.parts);
        if (parts == null) {
            return -3;
        }
        asked.parts = parts;
        return 1;
    }

    boolean refer(int action, int blob) {
        if (action < 0 || action > 19 || blob != -1 && !there(blob)) {
            return false;
        }
        actions.put(action, blob);
        return true;
    }

    int referred(int action) {
        return actions.getOrDefault(action, -1);
    }

    int sweep() {
        int before = blobs.size();
        blobs.keySet().removeIf(b -> !actions.containsValue(b) && packOf(b) == -1);
        return before - blobs.size();
    }

    int pack() {
        List<Integer> row = new ArrayList<>();
        for (int number : blobs.keySet()) {
            if (packOf(number) == -1) {
                row.add(number);
            }
        }
        if (row.isEmpty() || packs.size() == 12) {
            return -1;
        }
        packs.add(row);
        return packs.size() - 1;
    }

    int cut(int pack, int keep) {
        if (pack < 0 || pack >= packs.size() || keep < 0) {
            return -1;
        }
        List<Integer> stay = new ArrayList<>();
        List<Integer> lost = new ArrayList<>();
        int end = 0;
        for (int number : packs.get(pack)) {
            end += size(number);
            (end > keep ? lost : stay).add(number);
        }
        packs.set(pack, stay);
        blobs.keySet().removeAll(lost);
        actions.values().removeAll(lost);
        return lost.size();
    }

    int packOf(int blob) {
        for (int pack = 0; pack < packs.size(); pack++) {
            if (packs.get(pack).contains(blob)) {
                return pack;
            }
        }
        return -1;
    }

    int count(int what) {
        if (what == 0) {
            return kept().size();
        }
        if (what == 1) {
            return kept().stream().mapToInt(p -> p.bytes.length).sum();
        }
        if (what == 2) {
            return blobs.size();
        }
        if (what < 3 || size(what - 3) <= 0) {
            return -1;
        }
        Part first = blobs.get(what - 3).parts.get(0);
        return (int) blobs.values().stream().filter(b -> b.parts.contains(first)).count();
    }
}
