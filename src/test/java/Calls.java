/** Calls by name, so that tables of calls can be written down. */
final class Calls {
    private Calls() {
    }

    static long of(DebtFerry x, String name, int... a) {
        switch (name) {
            case "river": return x.river(a[0], a[1], a[2], a[3]);
            case "ofPerson": return x.ofPerson(a[0], a[1]);
            case "owes": return x.owes(a[0], a[1]);
            case "lend": return x.lend(a[0], a[1], a[2]);
            case "count": return x.count(a[0]);
            case "build": return x.build(a[0]);
            case "debt": return x.debt(a[0], a[1]);
            case "pullers": return x.pullers(a[0]);
            case "fair": return x.fair(a[0]);
            case "loads": return x.loads(a[0], a[1], a[2], a[3], a[4]);
            case "cross": return x.cross(a[0]);
            case "loan": return x.loan(a[0], a[1], a[2]);
            case "forgave": return x.forgave(a[0]);
            case "reading": return x.reading(a[0], a[1]);
            case "back": return x.back(a[0]);
            case "notes": return x.notes(a[0], a[1]);
            case "kinds": return x.kinds(a[0]);
            case "often": return x.often();
            case "odds": return x.odds(a[0], a[1], a[2]);
            case "sheet": return x.sheet(a[0], a[1], a[2]);
            case "lose": return x.lose(a[0]);
            case "put": return x.put(a[0], a[1], a[2]);
            case "cell": return x.cell(a[0], a[1], a[2]);
            case "copy": return x.copy(a[0], a[1], a[2], a[3], a[4]);
            case "tell": return x.tell(a[0]);
            case "hail": return x.hail(a[0]);
            case "as": return x.as(a[0], a[1]);
            case "trace": return x.trace();
            case "fault": return x.fault();
            case "many": return x.many(a[0]);
            default: throw new IllegalStateException(name);
        }
    }
}
