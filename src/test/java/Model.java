import java.math.BigDecimal;
import java.math.BigInteger;
import java.math.RoundingMode;
import java.util.ArrayList;
import java.util.HashMap;
import java.util.HashSet;
import java.util.List;
import java.util.Map;
import java.util.Set;

/** The document once more, slow and plain, with the Java library: what ModelTest holds TermDesk against. */
final class Model {
    record Fraction(BigInteger top, BigInteger bottom) implements Comparable<Fraction> {
        static final Fraction ONE = new Fraction(BigInteger.ONE, BigInteger.ONE);

        static Fraction of(BigInteger top, BigInteger bottom) {
            BigInteger common = top.gcd(bottom);
            return new Fraction(top.divide(common), bottom.divide(common));
        }

        Fraction scaled(int times, int by) {
            Fraction scaled = of(top.multiply(BigInteger.valueOf(times)), bottom.multiply(BigInteger.valueOf(by)));
            return scaled.compareTo(ONE) > 0 ? ONE : scaled;
        }

        @Override
        public int compareTo(Fraction other) {
            return top.multiply(other.bottom).compareTo(other.top.multiply(bottom));
        }

        String print(int places) {
            if (places == TermDesk.NONE) {
                return bottom.equals(BigInteger.ONE) ? top.toString() : top + "/" + bottom;
            }
            return new BigDecimal(top).divide(new BigDecimal(bottom), places, RoundingMode.HALF_EVEN).toPlainString();
        }
    }

    record Row(int term, int hits, int studied, int size, int genes, Fraction[] values) {
    }

    final List<String> terms = new ArrayList<>();
    final List<String> genes = new ArrayList<>();
    final Map<String, Integer> termNames = new HashMap<>();
    final List<Set<Integer>> parents = new ArrayList<>();
    final List<Set<Integer>> noted = new ArrayList<>();
    final Set<Integer> old = new HashSet<>();
    final Set<Integer> study = new HashSet<>();
    List<Row> report = new ArrayList<>();
    int fault = 0;
    int place = TermDesk.NONE;

    int run(String text) {
        fault = 0;
        place = TermDesk.NONE;
        int from = 0;
        int done = 0;
        while (from < text.length()) {
            int end = text.indexOf('\n', from);
            end = end < 0 ? text.length() : end;
            if (end > from && !line(text.substring(from, end), from)) {
                return done;
            }
            done++;
            from = end + 1;
        }
        return done;
    }

    private boolean faulty(int number, int at) {
        fault = number;
        place = at;
        return false;
    }

    private boolean line(String line, int from) {
        String[] words = line.split(" ", -1);
        int[] places = new int[words.length + 1];
        places[0] = from;
        for (int i = 0; i < words.length; i++) {
            places[i + 1] = places[i] + words[i].length() + 1;
        }
        String kinds = switch (words[0]) {
            case "term" -> "T";
            case "alias" -> "Tt";
            case "isa", "part" -> "tp";
            case "old" -> "o";
            case "gene" -> "G";
            case "note", "not" -> "gt";
            case "study" -> "g";
            default -> null;
        };
        if (kinds == null) {
            return faulty(1, from);
        }
        for (int i = 1; i <= kinds.length(); i++) {
            if (i >= words.length) {
                return faulty(1, from + line.length());
            }
            int wrong = wordFault(words, i, kinds.charAt(i - 1));
            if (wrong != 0) {
                return faulty(wrong, places[i]);
            }
        }
        if (words.length > kinds.length() + 1) {
            return faulty(1, places[kinds.length() + 1]);
        }
        return does(words) || faulty(7, from);
    }

    private int wordFault(String[] words, int i, char kind) {
        String word = words[i];
        if (word.isEmpty()) {
            return 1;
        }
        if (!word.matches("[a-zA-Z0-9_:]{1,12}")) {
            return 2;
        }
        boolean known = kind == 'G' || kind == 'g' ? genes.contains(word) : termNames.containsKey(word);
        if (kind == 'T' || kind == 'G') {
            return known ? 4 : 0;
        }
        if (!known) {
            return 3;
        }
        if (kind == 'p') {
            int first = termNames.get(words[1]);
            int second = termNames.get(word);
            if (first == second || above(second).contains(first)) {
                return 5;
            }
        }
        return (kind == 't' || kind == 'p') && old.contains(termNames.get(word)) ? 6 : 0;
    }

    private boolean does(String[] words) {
        switch (words[0]) {
            case "term" -> {
                if (terms.size() == 200 || termNames.size() == 300) {
                    return false;
                }
                termNames.put(words[1], terms.size());
                terms.add(words[1]);
                parents.add(new HashSet<>());
                noted.add(new HashSet<>());
            }
            case "alias" -> {
                if (termNames.size() == 300) {
                    return false;
                }
                termNames.put(words[1], termNames.get(words[2]));
            }
            case "isa", "part" -> {
                Set<Integer> of = parents.get(termNames.get(words[1]));
                int parent = termNames.get(words[2]);
                if (links() == 600 && !of.contains(parent)) {
                    return false;
                }
                of.add(parent);
            }
            case "old" -> old.add(termNames.get(words[1]));
            case "gene" -> {
                if (genes.size() == 200) {
                    return false;
                }
                genes.add(words[1]);
            }
            case "note" -> {
                Set<Integer> of = noted.get(termNames.get(words[2]));
                int gene = genes.indexOf(words[1]);
                if (notes() == 2000 && !of.contains(gene)) {
                    return false;
                }
                of.add(gene);
            }
            case "study" -> study.add(genes.indexOf(words[1]));
            default -> {
            }
        }
        return true;
    }

    int links() {
        return parents.stream().mapToInt(Set::size).sum();
    }

    int notes() {
        return noted.stream().mapToInt(Set::size).sum();
    }

    Set<Integer> above(int term) {
        Set<Integer> found = new HashSet<>();
        List<Integer> open = new ArrayList<>(parents.get(term));
        while (!open.isEmpty()) {
            int next = open.remove(open.size() - 1);
            if (found.add(next)) {
                open.addAll(parents.get(next));
            }
        }
        return found;
    }

    Set<Integer> below(int term) {
        Set<Integer> found = new HashSet<>();
        for (int other = 0; other < terms.size(); other++) {
            if (above(other).contains(term)) {
                found.add(other);
            }
        }
        return found;
    }

    Set<Integer> at(int term) {
        Set<Integer> found = new HashSet<>(noted.get(term));
        for (int lower : below(term)) {
            found.addAll(noted.get(lower));
        }
        return found;
    }

    Set<Integer> studiedAt(int term) {
        Set<Integer> found = at(term);
        found.retainAll(study);
        return found;
    }

    int way(int term, Map<Integer, Integer> known) {
        if (!known.containsKey(term)) {
            int longest = 0;
            for (int parent : parents.get(term)) {
                longest = Math.max(longest, 1 + way(parent, known));
            }
            known.put(term, longest);
        }
        return known.get(term);
    }

    int term(int term, int what) {
        return switch (what) {
            case 0 -> parents.get(term).size();
            case 1 -> above(term).size();
            case 2 -> below(term).size();
            case 3 -> at(term).size();
            case 4 -> studiedAt(term).size();
            case 5 -> old.contains(term) ? 1 : 0;
            default -> way(term, new HashMap<>());
        };
    }

    List<Integer> candidates() {
        List<Integer> found = new ArrayList<>();
        for (int term = 0; term < terms.size(); term++) {
            if (!old.contains(term) && !studiedAt(term).isEmpty()) {
                found.add(term);
            }
        }
        return found;
    }

    int about(int what) {
        return switch (what) {
            case 0 -> terms.size();
            case 1 -> genes.size();
            case 2 -> study.size();
            case 3 -> candidates().size();
            case 4 -> report.size();
            case 5 -> links();
            case 6 -> notes();
            default -> termNames.size();
        };
    }

    private static BigInteger choices(int of, int take) {
        if (take < 0 || take > of) {
            return BigInteger.ZERO;
        }
        BigInteger choices = BigInteger.ONE;
        for (int i = 1; i <= take; i++) {
            choices = choices.multiply(BigInteger.valueOf(of - take + i)).divide(BigInteger.valueOf(i));
        }
        return choices;
    }

    private Fraction chance(int size, int hits) {
        BigInteger sum = BigInteger.ZERO;
        for (int i = hits; i <= size; i++) {
            sum = sum.add(choices(size, i).multiply(choices(genes.size() - size, study.size() - i)));
        }
        return Fraction.of(sum, choices(genes.size(), study.size()));
    }

    List<Row> ranked() {
        List<Row> rows = new ArrayList<>();
        for (int term : candidates()) {
            Fraction[] values = new Fraction[4];
            int size = at(term).size();
            int hits = studiedAt(term).size();
            values[0] = chance(size, hits);
            rows.add(new Row(term, hits, study.size(), size, genes.size(), values));
        }
        rows.sort((a, b) -> compare(a, b, 0));
        int m = rows.size();
        for (int j = 1; j <= m; j++) {
            Fraction[] values = rows.get(j - 1).values;
            values[1] = values[0].scaled(m, 1);
            for (int i = 1; i <= j; i++) {
                Fraction next = rows.get(i - 1).values[0].scaled(m - i + 1, 1);
                values[2] = values[2] == null || next.compareTo(values[2]) > 0 ? next : values[2];
            }
            for (int i = j; i <= m; i++) {
                Fraction next = rows.get(i - 1).values[0].scaled(m, i);
                values[3] = values[3] == null || next.compareTo(values[3]) < 0 ? next : values[3];
            }
        }
        return rows;
    }

    private static int compare(Row a, Row b, int value) {
        int order = a.values[value].compareTo(b.values[value]);
        return order != 0 ? order : Integer.compare(a.term, b.term);
    }

    int report(int value, int a, int b) {
        Fraction cut = Fraction.of(BigInteger.valueOf(a), BigInteger.valueOf(b));
        report = ranked();
        report.removeIf(row -> row.values[value].compareTo(cut) > 0);
        report.sort((x, y) -> compare(x, y, value));
        return report.size();
    }
}
